/-! TWO BY TURNS: what comes of it -/
def iI (z : Int) : Int32 := Int32.ofInt z
theorem iI_add (a b : Int) : iI a + iI b = iI (a + b) := (Int32.ofInt_add a b).symm
theorem iI_neg (a : Int) : -iI a = iI (-a) := (Int32.ofInt_neg a).symm
theorem iI_nI (k : Nat) : nI k = iI (k : Int) := Int32.ofInt_eq_ofNat.symm
def sm (z : Int) : Prop := -2000000 ≤ z ∧ z ≤ 2000000
theorem iI_t {z : Int} (h : sm z) : (iI z).toInt = z := Int32.toInt_ofInt_of_le (by have := h.1; omega) (by have := h.2; omega)
theorem iI_le {a b : Int} (ha : sm a) (hb : sm b) : (iI a ≤ iI b) = (a ≤ b) := by rw [eq_iff_iff, fa_le, iI_t ha, iI_t hb]
theorem iI_lt {a b : Int} (ha : sm a) (hb : sm b) : (iI a < iI b) = (a < b) := by rw [eq_iff_iff, fa_lt, iI_t ha, iI_t hb]
theorem iI_eq {a b : Int} (ha : sm a) (hb : sm b) : (iI a = iI b) = (a = b) := by rw [eq_iff_iff, fa_eq, iI_t ha, iI_t hb]
/-- a step: a door, or none -/
def mvH (r : Ro) (k : Nat) : Ro := if k < r 0 then (wGo r [nI k]).1.1 else r
def mvW (r : Ro) (k : Nat) : Int := if k < r 0 then ((wGo r [nI k]).2.2 : Int) else 0
def pick (b : Bool) (x y : Int) : Int := if b = true then (if x < y then y else x) else (if y < x then y else x)
def foldB (b : Bool) (f : Nat → Int) : Nat → Nat → Int → Int
  | 0, _, a => a
  | c + 1, j, a => foldB b f c (j + 1) (pick b a (f j))
def valT : Nat → Bool → Ro → Int
  | 0, _, _ => 0
  | m + 1, b, r => foldB b (fun k => (if b = true then mvW r k else -mvW r k) + valT m (!b) (mvH r k)) (r 0) 0 (valT m (!b) r)
def leB (b : Bool) (x y : Int) : Prop := if b = true then x ≤ y else y ≤ x
theorem leB.rf (b : Bool) (x : Int) : leB b x x := by unfold leB; split <;> omega
theorem leB.tr {b : Bool} {x y z : Int} (h : leB b x y) (g : leB b y z) : leB b x z := by
  unfold leB at h g ⊢
  split at h <;> rename_i e
  · rw [if_pos e] at g ⊢; omega
  · rw [if_neg e] at g ⊢; omega
theorem pick_or (b : Bool) (x y : Int) : pick b x y = x ∨ pick b x y = y := by
  unfold pick
  split
  · split
    · exact Or.inr rfl
    · exact Or.inl rfl
  · split
    · exact Or.inr rfl
    · exact Or.inl rfl
theorem pick_le (b : Bool) (x y : Int) : leB b x (pick b x y) ∧ leB b y (pick b x y) := by
  unfold pick leB
  by_cases e : b = true
  · simp only [if_pos e]; split <;> omega
  · simp only [if_neg e]; split <;> omega
theorem pick_same {b : Bool} {x y : Int} (h : leB b y x) : pick b x y = x := by
  unfold pick leB at *
  by_cases e : b = true
  · simp only [if_pos e] at h ⊢; rw [if_neg (by omega)]
  · simp only [if_neg e] at h ⊢; rw [if_neg (by omega)]
theorem foldB_is (b : Bool) (f : Nat → Int) : ∀ (c j : Nat) (a : Int), (foldB b f c j a = a ∨ ∃ k, j ≤ k ∧ k < j + c ∧ foldB b f c j a = f k) ∧ leB b a (foldB b f c j a) ∧ ∀ k, j ≤ k → k < j + c → leB b (f k) (foldB b f c j a)
  | 0, j, a => ⟨Or.inl rfl, leB.rf b a, fun k h1 h2 => by omega⟩
  | c + 1, j, a => by
    obtain ⟨h1, h2, h3⟩ := foldB_is b f c (j + 1) (pick b a (f j))
    rw [foldB]
    have q := pick_le b a (f j)
    refine ⟨?_, q.1.tr h2, fun k a1 a2 => ?_⟩
    · rcases h1 with h1 | ⟨k, k1, k2, k3⟩
      · rcases pick_or b a (f j) with e | e
        · exact Or.inl (h1.trans e)
        · exact Or.inr ⟨j, Nat.le_refl _, by omega, h1.trans e⟩
      · exact Or.inr ⟨k, by omega, by omega, k3⟩
    · by_cases e : k = j
      · subst e; exact q.2.tr h2
      · exact h3 k (by omega) (by omega)
/-- the best of what steps come to -/
def isB (b : Bool) (f : Nat → Int) (lo hi : Nat) (v : Int) : Prop := (∃ k, lo ≤ k ∧ k ≤ hi ∧ v = f k) ∧ ∀ k, lo ≤ k → k ≤ hi → leB b (f k) v
theorem leB.eq {b : Bool} {x y : Int} (h : leB b x y) (g : leB b y x) : x = y := by
  unfold leB at h g
  by_cases e : b = true
  · rw [if_pos e] at h g; omega
  · rw [if_neg e] at h g; omega
theorem isB.uniq {b : Bool} {f : Nat → Int} {lo hi : Nat} {v w : Int} (h : isB b f lo hi v) (g : isB b f lo hi w) : v = w := by
  obtain ⟨⟨k, k1, k2, k3⟩, h2⟩ := h
  obtain ⟨⟨l, l1, l2, l3⟩, g2⟩ := g
  refine leB.eq (b := b) ?_ ?_
  · rw [k3]; exact g2 k k1 k2
  · rw [l3]; exact h2 l l1 l2
theorem isB.add {b : Bool} {f : Nat → Int} {lo hi : Nat} {v : Int} (x : Int) (h : isB b f lo hi v) : isB b (fun k => x + f k) lo hi (x + v) := by
  obtain ⟨⟨k, k1, k2, k3⟩, h2⟩ := h
  refine ⟨⟨k, k1, k2, by rw [k3]⟩, fun j a c => ?_⟩
  have q := h2 j a c
  show leB b (x + f j) (x + v)
  unfold leB at q ⊢
  by_cases e : b = true
  · rw [if_pos e] at q ⊢; omega
  · rw [if_neg e] at q ⊢; omega
theorem isB.cong {b : Bool} {f g : Nat → Int} {lo hi : Nat} {v : Int} (h : isB b f lo hi v) (e : ∀ k, lo ≤ k → k ≤ hi → f k = g k) : isB b g lo hi v := by
  obtain ⟨⟨k, k1, k2, k3⟩, h2⟩ := h
  exact ⟨⟨k, k1, k2, by rw [k3, e k k1 k2]⟩, fun j a c => by rw [← e j a c]; exact h2 j a c⟩
theorem mv_none (r : Ro) : mvH r (r 0) = r ∧ mvW r (r 0) = 0 := by
  unfold mvH mvW
  rw [if_neg (by omega), if_neg (by omega)]
  exact ⟨rfl, rfl⟩
theorem valT_is (m : Nat) (b : Bool) (r : Ro) : isB b (fun k => (if b = true then mvW r k else -mvW r k) + valT m (!b) (mvH r k)) 0 (r 0) (valT (m + 1) b r) := by
  rw [valT]
  obtain ⟨h1, h2, h3⟩ := foldB_is b (fun k => (if b = true then mvW r k else -mvW r k) + valT m (!b) (mvH r k)) (r 0) 0 (valT m (!b) r)
  have e : (fun k => (if b = true then mvW r k else -mvW r k) + valT m (!b) (mvH r k)) (r 0) = valT m (!b) r := by
    show (if b = true then mvW r (r 0) else -mvW r (r 0)) + valT m (!b) (mvH r (r 0)) = _
    rw [(mv_none r).1, (mv_none r).2]
    split <;> omega
  refine ⟨?_, fun k a c => ?_⟩
  · rcases h1 with h1 | ⟨k, k1, k2, k3⟩
    · exact ⟨r 0, by omega, Nat.le_refl _, by rw [h1, e]⟩
    · exact ⟨k, k1, by omega, k3⟩
  · by_cases q : k = r 0
    · subst q; rw [e]; exact h2
    · exact h3 k a (by omega)
theorem mvW_b {r : Ro} {N : Nat} (h : wf r N) (hN : N ≤ 2000) (k : Nat) : 0 ≤ mvW r k ∧ mvW r k ≤ 20 := by
  unfold mvW
  have := (wGo_w h hN [nI k]).1
  split <;> omega
theorem mvH_wf {r : Ro} {N : Nat} (h : wf r N) (hN : N ≤ 2000) (k : Nat) : wf (mvH r k) (N + 1) := by
  unfold mvH
  split
  · exact wf_go h hN _
  · exact h.mono (by omega)
theorem valT_b : ∀ (m : Nat) (b : Bool) (r : Ro) (N : Nat), wf r N → N + m ≤ 2000 → -(20 * (m : Int)) ≤ valT m b r ∧ valT m b r ≤ 20 * m
  | 0, b, r, N, _, _ => by rw [valT]; omega
  | m + 1, b, r, N, h, hN => by
    obtain ⟨⟨k, k1, k2, k3⟩, _⟩ := valT_is m b r
    rw [k3]
    show -(20 * ((m + 1 : Nat) : Int)) ≤ (if b = true then mvW r k else -mvW r k) + valT m (!b) (mvH r k) ∧ (if b = true then mvW r k else -mvW r k) + valT m (!b) (mvH r k) ≤ 20 * ((m + 1 : Nat) : Int)
    have q := valT_b m (!b) (mvH r k) (N + 1) (mvH_wf h (by omega) k) (by omega)
    have w := mvW_b h (by omega) k
    split <;> omega
/-- a door that does not lead from the first room: as none -/
theorem mv_astray {r : Ro} {k : Nat} (h8 : r 0 ≤ 8) (h : ¬ (0 = r (15 + 5 * k) ∨ 0 = r (16 + 5 * k))) : mvH r k = r ∧ mvW r k = 0 := by
  unfold mvH mvW
  by_cases hk : k < r 0
  · have e0 : 0 ≤ (nI k).toInt ∧ (nI k).toInt < r 0 := by rw [toInt_nI (by omega)]; omega
    have e : wGo r [nI k] = (start r, 6, 0) := by
      unfold wGo
      have p : wPass (start r) (nI k) = (start r, 6) := by
        rw [wPass]
        show (if 0 ≤ (nI k).toInt ∧ (nI k).toInt < r 0 then _ else _) = _
        rw [if_pos e0, nI_clamp (show k < 2 ^ 31 by omega), wPassK]
        exact if_neg h
      rw [wRun, p, if_neg (show ¬ 6 = 0 by decide)]
      rfl
    rw [if_pos hk, if_pos hk, e]
    exact ⟨rfl, rfl⟩
  · rw [if_neg hk, if_neg hk]; exact ⟨rfl, rfl⟩
section Turns
variable {I I' : Nat → Nat → Int32} {D D' : Nat → Nat → Option Nat} {K : Nat → Nat} {n N : Nat} {Z : Nat → Cl} {r : Ro}
def FT (t : Nat) (I : Nat → Nat → Int32) (D : Nat → Nat → Option Nat) (I' : Nat → Nat → Int32) (D' : Nat → Nat → Option Nat) : Prop := (∀ x, (x < 16 ∨ 23 < x) → x ≠ 29 → (x < 150 + 4 * t ∨ 161 < x) → I' x = I x) ∧ (∀ x, x ≠ 20 → (x < 150 + 4 * t ∨ 161 < x) → D' x = D x)
theorem FT.rf {t : Nat} : FT t I D I D := ⟨fun _ _ _ _ => rfl, fun _ _ _ => rfl⟩
theorem FT.tr {t : Nat} {J : Nat → Nat → Int32} {E : Nat → Nat → Option Nat} (h : FT t I D I' D') (g : FT t I' D' J E) : FT t I D J E := ⟨fun x a b c => (g.1 x a b c).trans (h.1 x a b c), fun x a b => (g.2 x a b).trans (h.2 x a b)⟩
theorem FT.dn {t s : Nat} (h : FT t I D I' D') (hs : s ≤ t) : FT s I D I' D' := ⟨fun x a b c => h.1 x a b (by omega), fun x a b => h.2 x a (by omega)⟩
theorem FT.dk {t : Nat} (h : FT t I D I' D') : DK I K n I' K n := DK.of (fun q hq => h.1 q (by omega) (by omega) (by omega))
theorem FT.hs {t s : Nat} (h : FT t I D I' D') (hs : s < t) (ht : t ≤ 3) (hc : CH I D K n (150 + 4 * s) r) (h1 : r 1 ≤ 8) (h0 : r 0 ≤ 8) : CH I' D' K n (150 + 4 * s) r := hc.move h1 h0 (HF.self (h.1 _ (by omega) (by omega) (by omega)) (h.1 _ (by omega) (by omega) (by omega)) (h.1 _ (by omega) (by omega) (by omega)) (h.2 _ (by omega) (by omega))) h.dk
def bT (t : Nat) : Bool := decide (t % 2 = 0)
theorem bT_s (t : Nat) : bT (t + 1) = !bT t := by
  unfold bT
  by_cases h : t % 2 = 0
  · rw [decide_eq_true h, decide_eq_false (by omega)]; rfl
  · rw [decide_eq_false h, decide_eq_true (by omega)]; rfl
set_option maxRecDepth 100000 in
set_option maxHeartbeats 8000000 in
theorem c_play {nn : Nat} (hn3 : nn ≤ 3) : ∀ (m dep t : Nat) (r : Ro) (N : Nat) (I : Nat → Nat → Int32) (D : Nat → Nat → Option Nat), t + m = nn → m < dep → DV D K n → CH I D K n 17 r → wf r N → N + m ≤ 2000 → (∀ k, k < 3 → D 28 k = some (150 + 4 * k)) → ∃ I' D', fr_X11_playTurns dep (enc I D K n Z) 0 (nI t) (nI nn) = some (iI (valT m (bT t) r), enc I' D' K n Z) ∧ FT t I D I' D' ∧ DV D' K n := by
  intro m
  induction m with
  | zero =>
    intro dep t r N I D ht hm hD hc hw hN h28
    obtain ⟨f, rfl⟩ : ∃ f, dep = f + 1 := ⟨dep - 1, by omega⟩
    refine ⟨I, D, ?_, FT.rf, hD⟩
    rw [fr_X11_playTurns, if_pos (nI_le (show nn ≤ t by omega) (by omega))]
    rfl
  | succ m ih =>
    intro dep t r N I D ht hm hD hc hw hN h28
    obtain ⟨dep', rfl⟩ : ∃ f, dep = f + 1 := ⟨dep - 1, by omega⟩
    have r08 := hw.le8.2
    have r18 := hw.le8.1
    have hA : isH (150 + 4 * t) := by unfold isH; omega
    have loop : ∀ (c fuel j : Nat) (I : Nat → Nat → Int32) (D : Nat → Nat → Option Nat) (a : Int), j + c = r 0 → c < fuel → DV D K n → CH I D K n (150 + 4 * t) r → (∀ k, k < 3 → D 28 k = some (150 + 4 * k)) → (-1000 ≤ a ∧ a ≤ 1000) → leB (bT t) (valT m (!bT t) r) a → ∃ I' D', f_X11_playTurns_L57 (fr_X11_playTurns dep') (fun y119 y120 h118 => some (y119, h118)) 0 (nI t) (nI nn) (150 + 4 * t) (if bT t = true then 1 else 0) fuel (enc I D K n Z) (iI a) (nI j) = some (iI (foldB (bT t) (fun k => (if bT t = true then mvW r k else -mvW r k) + valT m (!bT t) (mvH r k)) c j a), enc I' D' K n Z) ∧ FT (t + 1) I D I' D' ∧ DV D' K n := by
      intro c
      induction c with
      | zero =>
        intro fuel j I D a hj hf hD hc h28 ha hle
        obtain ⟨f, rfl⟩ : ∃ f, fuel = f + 1 := ⟨fuel - 1, by omega⟩
        have e : j = r 0 := by omega
        subst e
        refine ⟨I, D, ?_, FT.rf, hD⟩
        rw [f_X11_playTurns_L57]
        simp only [gI_e (s_H hA) 4 rfl, bA_s, hc.1.2.1, if_pos (nI_le (Nat.le_refl (r 0)) (show r 0 < 2 ^ 31 by omega))]
        rfl
      | succ c ihc =>
        intro fuel j I D a hj hf hD hc h28 ha hle
        obtain ⟨f, rfl⟩ : ∃ f, fuel = f + 1 := ⟨fuel - 1, by omega⟩
        have hjr : j < r 0 := by omega
        obtain ⟨q, hq1, hq2⟩ := hc.2.2.2 j hjr
        have u := hw.2.2.2.2.2.2 j hjr
        have nle : ¬ nI (r 0) ≤ nI j := nI_ge hjr (by omega)
        have ld := d_leads (D := D) (Z := Z) hq2 0 (by omega) (by omega) (by omega)
        have ld : v_X2_leadsFrom (K q) (enc I D K n Z) q (0 : Int32) = some (if 0 = r (15 + 5 * j) ∨ 0 = r (16 + 5 * j) then 1 else 0, enc I D K n Z) := ld
        by_cases al : 0 = r (15 + 5 * j) ∨ 0 = r (16 + 5 * j)
        · rw [if_pos al] at ld
          obtain ⟨I1, D1, b1, b2', b3', b4', b5'⟩ := c_become (I := I) (D := D) (K := K) (n := n) (Z := Z) h17 hA (by omega) hD
          have f1 : FT (t + 1) I D I1 D1 := ⟨fun x a b c => b3' x (by omega) (by omega) (by omega), fun x a b => b4' x (by omega)⟩
          have hc1 : CH I1 D1 K n 17 r := hc.move r18 r08 b2' f1.dk
          have ea := ast_n (I := I1) (D := D1) (K := K) (n := n) (Z := Z) s_29 0 (nI j) (by omega) (by decide)
          have ea : ast (enc I1 D1 K n Z) 29 0 (0 : Int32) (nI j) = some (enc (va_up I1 29 (upd (I1 29) 0 (nI j))) D1 K n Z) := ea
          generalize hI2 : va_up I1 29 (upd (I1 29) 0 (nI j)) = I2 at ea
          have e2 : ∀ x, x ≠ 29 → I2 x = I1 x := fun x hx => by rw [← hI2, va_up_ne _ _ hx]
          have f2 : FT (t + 1) I D I2 D1 := f1.tr ⟨fun x a b c => e2 x b, fun _ _ _ => rfl⟩
          have hc2 : CH I2 D1 K n 17 r := hc1.move r18 r08 (HF.self (e2 17 (by omega)) (e2 (17 + 1) (by omega)) (e2 (17 + 2) (by omega)) rfl) (DK.of (fun q hq => e2 q (by omega)))
          obtain ⟨I3, g1, g2, g3, g4⟩ := c_gd (I := I2) (D := D1) (K := K) (n := n) (Z := Z) s_29 (by decide) (by decide) hc2 hw (by omega) (i := 0) (c := 1) (by decide) (by decide)
          have g1 : f_X10_go (enc I2 D1 K n Z) 16 29 (0 : Int32) (1 : Int32) = some (enc I3 D1 K n Z) := g1
          have ei : itm (I2 29) 0 1 = [nI j] := by
            show [I2 29 0] = _
            rw [← hI2, va_up_self, pk_us]
          rw [ei] at g2 g3
          have f3 : FT (t + 1) I D I3 D1 := f2.tr ⟨fun x a b c => g4.1 x a, fun _ _ _ => rfl⟩
          have em : mvH r j = (wGo r [nI j]).1.1 := if_pos hjr
          have ew : mvW r j = ((wGo r [nI j]).2.2 : Int) := if_pos hjr
          have hwj : wf (mvH r j) (N + 1) := mvH_wf hw (by omega) j
          obtain ⟨I4, D4, k1, k2, k3⟩ := ih dep' (t + 1) (mvH r j) (N + 1) I3 D1 (by omega) (by omega) b5' (by rw [em]; exact g2) hwj (by omega) (fun k hk => by rw [f3.2 28 (by omega) (by omega)]; exact h28 k hk)
          rw [bT_s] at k1
          have f4 : FT (t + 1) I D I4 D4 := f3.tr k2
          have hgw := wGo_w hw (show N ≤ 2000 by omega) [nI j]
          have hgf : (wGo r [nI j]).2.1 < 2 ^ 31 := wGo_f _
          have ez : (nI (wGo r [nI j]).2.1 = (0 : Int32)) = ((wGo r [nI j]).2.1 = 0) := z_eq hgf (by decide)
          have w9 := g3.2.2.2.2.2.1
          have w10 := g3.2.2.2.2.2.2.1
          have tk : (if nI (wGo r [nI j]).2.1 = (0 : Int32) then bA (gN (enc I3 D1 K n Z) 0 10 5) fun a98 => bA (gI (enc I3 D1 K n Z) a98 9 9) fun g100 => some g100 else some (0 : Int32)) = some (iI (mvW r j)) := by
            rw [ew, ← iI_nI]
            by_cases z : (wGo r [nI j]).2.1 = 0
            · rw [if_pos (ez.mpr z)]
              simp only [r0_5, bA_s, g16_9, w9]
            · rw [if_neg (fun y => z (ez.mp y))]
              have : (wGo r [nI j]).2.2 = 0 := by have := mt hgw.2.mpr z; omega
              rw [this]; rfl
          have vb := valT_b m (!bT t) (mvH r j) (N + 1) hwj (by omega)
          have wb := mvW_b hw (show N ≤ 2000 by omega) j
          have nx : ∀ a', (-1000 ≤ a' ∧ a' ≤ 1000) → leB (bT t) (valT m (!bT t) r) a' → _ := fun a' h1 h2 => ihc f (j + 1) I4 D4 a' (by omega) (by omega) k3 (f4.hs (by omega) (by omega) hc r18 r08) (fun k hk => by rw [f4.2 28 (by omega) (by omega)]; exact h28 k hk) h1 h2
          rw [foldB]
          have hpk := pick_le (bT t) a ((if bT t = true then mvW r j else -mvW r j) + valT m (!bT t) (mvH r j))
          have hpo := pick_or (bT t) a ((if bT t = true then mvW r j else -mvW r j) + valT m (!bT t) (mvH r j))
          have hsz : -1000 ≤ (if bT t = true then mvW r j else -mvW r j) + valT m (!bT t) (mvH r j) ∧ (if bT t = true then mvW r j else -mvW r j) + valT m (!bT t) (mvH r j) ≤ 1000 := by split <;> omega
          obtain ⟨I5, D5, n1, n2, n3⟩ := nx (pick (bT t) a ((if bT t = true then mvW r j else -mvW r j) + valT m (!bT t) (mvH r j))) (by rcases hpo with e | e <;> rw [e] <;> omega) (hle.tr hpk.1)
          refine ⟨I5, D5, ?_, f4.tr n2, n3⟩
          rw [f_X11_playTurns_L57, ← n1]
          simp only [gI_e (s_H hA) 4 rfl, bA_s, hc.1.2.1, if_neg nle, isC_e (s_H hA), c_doorAt_in hA r08 hc.1.2.1 hjr, b2_s, hq1, gC_e hq2.1, ld, if_neg one0, r0_6, c17, b1, r0_11, ea, r0_5, c16, g1, g16_10, w10]
          simp only [r0_5, bA_s] at tk
          rw [tk]
          unfold pick
          by_cases bt : bT t = true
          · simp only [if_pos bt] at hsz ⊢
            have l1 : (iI a < iI (mvW r j + valT m (!bT t) (mvH r j))) = (a < mvW r j + valT m (!bT t) (mvH r j)) := iI_lt (by unfold sm; omega) (by unfold sm; omega)
            simp only [if_neg one0, bA_s, c0, z_i2, k1, b2_s, iI_add, l1]
            by_cases c1 : a < mvW r j + valT m (!bT t) (mvH r j)
            · simp only [if_pos c1]
            · simp only [if_neg c1]
          · simp only [if_neg bt] at hsz ⊢
            have l1 : (iI (-mvW r j + valT m (!bT t) (mvH r j)) < iI a) = (-mvW r j + valT m (!bT t) (mvH r j) < a) := iI_lt (by unfold sm; omega) (by unfold sm; omega)
            simp only [if_true, bA_s, c0, z_i2, k1, b2_s, iI_neg, iI_add, l1]
            by_cases c1 : -mvW r j + valT m (!bT t) (mvH r j) < a
            · simp only [if_pos c1]
            · simp only [if_neg c1]
        · rw [if_neg al] at ld
          have ms := mv_astray r08 al
          have e : pick (bT t) a ((if bT t = true then mvW r j else -mvW r j) + valT m (!bT t) (mvH r j)) = a := by
            rw [ms.1, ms.2]
            have : (if bT t = true then (0 : Int) else -0) + valT m (!bT t) r = valT m (!bT t) r := by split <;> omega
            rw [this]
            exact pick_same hle
          obtain ⟨I5, D5, n1, n2, n3⟩ := ihc f (j + 1) I D a (by omega) (by omega) hD hc h28 ha hle
          refine ⟨I5, D5, ?_, n2, n3⟩
          rw [foldB, e, f_X11_playTurns_L57, ← n1]
          simp only [gI_e (s_H hA) 4 rfl, bA_s, hc.1.2.1, if_neg nle, isC_e (s_H hA), c_doorAt_in hA r08 hc.1.2.1 hjr, b2_s, hq1, gC_e hq2.1, ld, if_true, z_i2]
    obtain ⟨I1, D1, b1, b2', b3', b4', b5'⟩ := c_become (I := I) (D := D) (K := K) (n := n) (Z := Z) hA h17 (by omega) hD
    have f1 : FT t I D I1 D1 := ⟨fun x a b c => b3' x (by omega) (by omega) (by omega), fun x a b => b4' x (by omega)⟩
    have hc1 : CH I1 D1 K n (150 + 4 * t) r := hc.move r18 r08 b2' f1.dk
    have hc17 : CH I1 D1 K n 17 r := hc.move r18 r08 (HF.self (b3' 17 (by omega) (by omega) (by omega)) (b3' (17 + 1) (by omega) (by omega) (by omega)) (b3' (17 + 2) (by omega) (by omega) (by omega)) (b4' (17 + 3) (by omega))) f1.dk
    have h28' : ∀ k, k < 3 → D1 28 k = some (150 + 4 * k) := fun k hk => by rw [f1.2 28 (by omega) (by omega)]; exact h28 k hk
    obtain ⟨I2, D2, k1, k2, k3⟩ := ih dep' (t + 1) r N I1 D1 (by omega) (by omega) b5' hc17 hw (by omega) h28'
    rw [bT_s] at k1
    have vb := valT_b m (!bT t) r N hw (by omega)
    obtain ⟨I3, D3, l1, l2, l3⟩ := loop (r 0) 2000 0 I2 D2 (valT m (!bT t) r) (by omega) (by omega) k3 (k2.hs (by omega) (by omega) hc1 r18 r08) (fun k hk => by rw [k2.2 28 (by omega) (by omega)]; exact h28' k hk) (by omega) (leB.rf _ _)
    refine ⟨I3, D3, ?_, f1.tr ((k2.tr l2).dn (by omega)), l3⟩
    rw [fr_X11_playTurns, if_neg (nI_ge (show t < nn by omega) (by omega)), valT, ← l1]
    have e2 : nI t - nI t / (2 : Int32) * (2 : Int32) = nI (t % 2) := pk_rem (d := 2) (by omega) (by decide) (by decide)
    have e3 : (nI (t % 2) = (0 : Int32)) = (bT t = true) := by
      rw [show (0 : Int32) = nI 0 from rfl, z_eq (by omega) (by decide)]
      unfold bT; rw [decide_eq_true_eq]
    simp only [r0_10, bA_s, qln_e s_28, if_pos (nI_lt (show t < 3 by omega) (by decide)), aldn_e s_28 t (show t < 3 by omega) (by decide), h28 t (by omega), r0_6, isC_e (s_H hA), b1, e2, e3, c0, z_i2]
    by_cases bt : bT t = true
    · simp only [if_pos bt, bA_s, k1, b2_s]; rfl
    · simp only [if_neg bt, bA_s, k1, b2_s]; rfl
end Turns
