section Way2
variable {I : Nat → Nat → Int32} {D : Nat → Nat → Option Nat} {K : Nat → Nat} {n N : Nat} {Z : Nat → Cl} {r : Ro}
theorem m_dig {β : Type} (kk : Int32 → Int32 → Hp → Option β) (x1 x2 x3 x4 x5 : Int32) (h0 : 0 < r 0) (h8 : r 0 ≤ 8) : ∀ (t v fuel : Nat) (J : Nat → Nat → Int32), t ≤ 3 → v < 2 ^ 31 → t < fuel → MH (J 166) r → ∃ J' y z, f_X12_way_L51 kk 162 x1 x2 x3 x4 x5 fuel (enc J D K n Z) (nI v) (nI t - 1) = kk y z (enc J' D K n Z) ∧ (∀ x, x ≠ 171 → J' x = J x) ∧ itm (J' 171) 0 t = (dg (r 0) t v).map nI ∧ ∀ i, t ≤ i → J' 171 i = J 171 i := by
  intro t
  induction t with
  | zero =>
    intro v fuel J ht hv hf hM
    obtain ⟨f, rfl⟩ : ∃ f, fuel = f + 1 := ⟨fuel - 1, by omega⟩
    exact ⟨J, _, _, by rw [f_X12_way_L51, if_pos neg_one_lt], fun _ _ => rfl, rfl, fun _ _ => rfl⟩
  | succ t ih =>
    intro v fuel J ht hv hf hM
    obtain ⟨f, rfl⟩ : ∃ f, fuel = f + 1 := ⟨fuel - 1, by omega⟩
    have l0 : ∀ J : Nat → Nat → Int32, MH (J 166) r → ald (enc J D K n Z) 166 0 (0 : Int32) = some (nI (r 0)) := fun J hM => by
      have q := ald_n (I := J) (D := D) (K := K) (n := n) (Z := Z) s_166 0 (by decide) (by decide)
      rw [hM 0 (by decide)] at q
      exact q
    have nz : ¬ nI (r 0) = 0 := nI_ne0 h0 (by omega)
    have ea := ast_n (I := J) (D := D) (K := K) (n := n) (Z := Z) s_171 t (nI (v % r 0)) (by omega) (by decide)
    generalize hJ1 : va_up J 171 (upd (J 171) t (nI (v % r 0))) = J1 at ea
    have e1 : ∀ x, x ≠ 171 → J1 x = J x := fun x hx => by rw [← hJ1, va_up_ne _ _ hx]
    have hM1 : MH (J1 166) r := by rw [e1 166 (by decide)]; exact hM
    obtain ⟨J', y, z, g1, g2, g3, g4⟩ := ih (v / r 0) f J1 (by omega) (Nat.lt_of_le_of_lt (Nat.div_le_self _ _) hv) (by omega) hM1
    refine ⟨J', y, z, ?_, fun x hx => by rw [g2 x hx, e1 x hx], ?_, fun i hi => ?_⟩
    · rw [f_X12_way_L51, nI_pred, if_neg (nI_pos (show t < 2 ^ 31 by omega)), ← g1]
      simp only [r162_19, r162_5, bA_s, l0 J hM, nzI, if_neg nz, pk_rem hv h0 (show r 0 < 2 ^ 31 by omega), ea, l0 J1 hM1, sub_one]
      rw [pk_div hv h0 (show r 0 < 2 ^ 31 by omega)]
    · rw [itm_snoc, g3, Nat.zero_add, g4 t (Nat.le_refl _), ← hJ1, va_up_self, pk_us, dg, List.map_append]
      rfl
    · rw [g4 i (by omega), ← hJ1, va_up_self, pk_un (by omega)]
theorem m_isWell {J : Nat → Nat → Int32} (hM : MH (J 166) r) (hw : wf r N) (hN : N ≤ 2000) {c goal : Nat} (hc8 : c ≤ 8) (hg : goal < 8) {p : List Nat} (hp : itm (J 171) 0 c = p.map nI) : ∃ J', f_X12_isWell (enc J D K n Z) 162 (nI c) (nI goal) = some (isS (leafW r goal p), enc J' D K n Z) ∧ LM J J' := by
  obtain ⟨J2, e1, e2, e3⟩ := m_ld (D := D) (K := K) (n := n) (Z := Z) hM
  obtain ⟨J3, d1, d2, d3, d4, d5, d6⟩ := m_gd (D := D) (K := K) (n := n) (Z := Z) e2 hw hN hc8
  rw [e3 171 (by decide), hp] at d1 d2 d3
  have hgw := wGo_w hw hN (p.map nI)
  have hrm := wGo_rm hw hN (p.map nI)
  have ew : (nI (wGo r (p.map nI)).2.2 ≤ (0 : Int32)) = ((wGo r (p.map nI)).2.2 ≤ 0) := z_le (m := 0) (by omega) (by decide)
  have er : (nI (wGo r (p.map nI)).1.2.1 = nI goal) = ((wGo r (p.map nI)).1.2.1 = goal) := z_eq (by omega) (by omega)
  have v24 := d3.1.2.2.2.1
  refine ⟨J3, ?_, (FM.lay e3).trans d4, by rw [d5, e3 171 (by decide)], by rw [d6, e3 162 (by decide)]⟩
  unfold leafW
  simp only [f_X12_isWell, c162, bA_s, e1, r162_7, d1, b2_s, ew]
  by_cases a : (wGo r (p.map nI)).2.1 = 0
  · have w0 : ¬ (wGo r (p.map nI)).2.2 ≤ 0 := by have := hgw.2.mp a; omega
    simp only [if_neg w0, g162_24, bA_s, v24, er]
    by_cases b : (wGo r (p.map nI)).1.2.1 = goal
    · rw [if_pos b, if_pos ⟨a, b⟩]; rfl
    · rw [if_neg b, if_neg (fun z => b z.2)]; rfl
  · have w0 : (wGo r (p.map nI)).2.2 ≤ 0 := by have := mt hgw.2.mpr a; omega
    simp only [if_pos w0, bA_s, bz0]
    rw [if_neg (fun z => a z.1)]; rfl
/-- what is answered of a way -/
def wayA (x2 : Int32) (m : Nat) (q : List Nat) : Int32 := if x2 = (-1 : Int32) then nI m else if nI m ≤ x2 then -1000000 else nI (q.getD x2.toNatClampNeg 0)
theorem way_ix {x2 : Int32} (h : (-1 : Int32) ≤ x2) (h1 : ¬ x2 = (-1 : Int32)) {m : Nat} (hm : m < 100) (h2 : ¬ nI m ≤ x2) : ∃ k, k < m ∧ x2 = nI k := by
  have a : -1 ≤ x2.toInt := by
    rw [fa_le] at h
    exact h
  have b : x2.toInt ≠ -1 := fun q => h1 ((fa_eq _ _).mpr q)
  have c := (fa_lt _ _).mp (fa_of_nle h2)
  rw [toInt_nI (by omega)] at c
  exact (ix_in (x := x2) (m := m) (by omega)).mp ⟨by omega, c⟩
set_option maxRecDepth 100000 in
set_option maxHeartbeats 8000000 in
theorem m_rows {goal m : Nat} {x2 : Int32} (kk : Int32 → Hp → Option (Int32 × Hp)) (hx2 : (-1 : Int32) ≤ x2) (hw : wf r N) (hN : N ≤ 2000) (hg : goal < 8) (hm : m ≤ 3) : ∀ (c fuel v : Nat) (J : Nat → Nat → Int32), v + c = r 0 ^ m → c < fuel → MH (J 166) r → ∃ J', f_X12_way_L35 kk 162 (nI goal) x2 (nI (r 0 ^ m)) (nI m) fuel (enc J D K n Z) (nI v) = (match srch (fun v => leafW r goal (dg (r 0) m v)) c v with | some q => some (wayA x2 m q, enc J' D K n Z) | none => kk (nI (r 0 ^ m)) (enc J' D K n Z)) ∧ FM J J' ∧ J' 162 1 = J 162 1 := by
  have h0 : 0 < r 0 := hw.2.1.1
  have h8 := hw.le8.2
  have hpw : r 0 ^ m ≤ 512 := Nat.le_trans (Nat.pow_le_pow_left h8 m) (Nat.le_trans (Nat.pow_le_pow_right (by decide) hm) (by decide))
  intro c
  induction c with
  | zero =>
    intro fuel v J hv hf hM
    obtain ⟨f, rfl⟩ : ∃ f, fuel = f + 1 := ⟨fuel - 1, by omega⟩
    have e : v = r 0 ^ m := by omega
    subst e
    exact ⟨J, by rw [f_X12_way_L35, if_pos (nI_le (Nat.le_refl _) (by omega))]; rfl, FM.rfl', rfl⟩
  | succ c ih =>
    intro fuel v J hv hf hM
    obtain ⟨f, rfl⟩ : ∃ f, fuel = f + 1 := ⟨fuel - 1, by omega⟩
    rw [f_X12_way_L35, if_neg (nI_ge (show v < r 0 ^ m by omega) (by omega))]
    obtain ⟨J1, y, z, g1, g2, g3, g4⟩ := m_dig (D := D) (K := K) (n := n) (Z := Z) (fun y34 y35 h33 => bA (isC h33 162 11) fun u42 => b2 (f_X12_isWell h33 162 (nI m) (nI goal)) fun r38 h36 => (if r38 = 0 then f_X12_way_L35 kk 162 (nI goal) x2 (nI (r 0 ^ m)) (nI m) f h36 (nI v + (1 : Int32)) else bA (if x2 = (-1 : Int32) then some (nI m) else (if nI m ≤ x2 then some (-1000000 : Int32) else bA (gN h36 162 11 19) fun a52 => bA (ald h36 a52 0 x2) fun v53 => some v53)) fun j47 => some (j47, h36))) (nI goal) x2 (nI (r 0 ^ m)) (nI m) (nI v) h0 h8 m v 2000 J hm (by omega) (by omega) hM
    rw [g1]
    have hM1 : MH (J1 166) r := by rw [g2 166 (by decide)]; exact hM
    have f1 : FM J J1 := ⟨fun x a b c d => g2 x c, fun j a b c => by rw [g2 162 (by decide)]⟩
    obtain ⟨J2, w1, w2⟩ := m_isWell (D := D) (K := K) (n := n) (Z := Z) hM1 hw hN (show m ≤ 8 by omega) hg g3
    have s2 : J2 162 1 = J 162 1 := by rw [w2.2.2, g2 162 (by decide)]
    cases hs : leafW r goal (dg (r 0) m v) with
    | some q =>
      rw [hs] at w1
      have eq : q = dg (r 0) m v := by
        unfold leafW at hs
        split at hs
        · exact (Option.some.inj hs).symm
        · cases hs
      refine ⟨J2, ?_, f1.trans w2.1, s2⟩
      rw [srch, hs]
      simp only [c162, bA_s, w1, b2_s, isS_s, if_neg one0]
      unfold wayA
      by_cases a : x2 = (-1 : Int32)
      · simp only [if_pos a, bA_s]
      · by_cases b : nI m ≤ x2
        · simp only [if_neg a, if_pos b, bA_s]
        · obtain ⟨k, hk, rfl⟩ := way_ix hx2 a (by omega) b
          have l := ald_n (I := J2) (D := D) (K := K) (n := n) (Z := Z) s_171 k (show k < 8 by omega) (by decide)
          rw [w2.2.1, itm_get g3 k hk, ← eq] at l
          simp only [if_neg a, if_neg b, r162_19, bA_s, l, nI_clamp (show k < 2 ^ 31 by omega)]
    | none =>
      rw [hs] at w1
      obtain ⟨J3, k1, k2, k3⟩ := ih f (v + 1) J2 (by omega) (by omega) (by rw [w2.row]; exact hM1)
      refine ⟨J3, ?_, f1.trans (w2.1.trans k2), by rw [k3, s2]⟩
      rw [srch, hs]
      simp only [c162, bA_s, w1, b2_s, isS_n, if_true, z_i2]
      exact k1
/-- the first length with a way, and that way -/
def wayF (r : Ro) (goal : Nat) (m : Nat) : Option (Nat × List Nat) := (srch (fun v => leafW r goal (dg (r 0) m v)) (r 0 ^ m) 0).map (fun q => (m, q))
def wayB (x2 : Int32) (o : Option (Nat × List Nat)) : Int32 := match o with | some (m, q) => wayA x2 m q | none => -1000000
set_option maxRecDepth 100000 in
set_option maxHeartbeats 8000000 in
theorem m_way_L {goal : Nat} {x2 : Int32} (hx2 : (-1 : Int32) ≤ x2) (hw : wf r N) (hN : N ≤ 2000) (hg : goal < 8) : ∀ (c fuel m : Nat) (J : Nat → Nat → Int32), m + c = 4 → c < fuel → MH (J 166) r → ∃ J', f_X12_way_L26 (fun y62 y63 h61 => some ((-1000000 : Int32), h61)) 162 (nI goal) x2 fuel (enc J D K n Z) (nI (r 0 ^ m)) (nI m) = some (wayB x2 (srch (wayF r goal) c m), enc J' D K n Z) ∧ FM J J' ∧ J' 162 1 = J 162 1 := by
  have h0 : 0 < r 0 := hw.2.1.1
  have h8 := hw.le8.2
  intro c
  induction c with
  | zero =>
    intro fuel m J hm hf hM
    obtain ⟨f, rfl⟩ : ∃ f, fuel = f + 1 := ⟨fuel - 1, by omega⟩
    have e : m = 4 := by omega
    subst e
    exact ⟨J, by rw [f_X12_way_L26, if_pos (show (3 : Int32) < nI 4 by decide)]; rfl, FM.rfl', rfl⟩
  | succ c ih =>
    intro fuel m J hm hf hM
    obtain ⟨f, rfl⟩ : ∃ f, fuel = f + 1 := ⟨fuel - 1, by omega⟩
    have hpw : r 0 ^ m ≤ 512 := Nat.le_trans (Nat.pow_le_pow_left h8 m) (Nat.le_trans (Nat.pow_le_pow_right (by decide) (show m ≤ 3 by omega)) (by decide))
    have n3 : ¬ (3 : Int32) < nI m := nI_nlt (a := 3) (by omega) (by decide)
    rw [f_X12_way_L26, if_neg n3]
    obtain ⟨J1, g1, g2, g3⟩ := m_rows (D := D) (K := K) (n := n) (Z := Z) (goal := goal) (m := m) (fun y56 h55 => bA (gN h55 162 11 5) fun a58 => bA (ald h55 a58 0 (0 : Int32)) fun v59 => f_X12_way_L26 (fun y62 y63 h61 => some ((-1000000 : Int32), h61)) 162 (nI goal) x2 f h55 (nI (r 0 ^ m) * v59) (nI m + (1 : Int32))) hx2 hw hN hg (show m ≤ 3 by omega) (r 0 ^ m) 2000 0 J (by omega) (by omega) hM
    rw [show nI 0 = (0 : Int32) by decide] at g1
    rw [g1]
    cases hs : srch (fun v => leafW r goal (dg (r 0) m v)) (r 0 ^ m) 0 with
    | some q =>
      refine ⟨J1, ?_, g2, g3⟩
      have e : srch (wayF r goal) (c + 1) m = some (m, q) := by
        rw [srch, wayF, hs]; rfl
      rw [e]; rfl
    | none =>
      have hM1 : MH (J1 166) r := by rw [g2.1 166 (by decide) (by decide) (by decide) (by decide)]; exact hM
      have l0 : ald (enc J1 D K n Z) 166 0 (0 : Int32) = some (nI (r 0)) := by
        have q := ald_n (I := J1) (D := D) (K := K) (n := n) (Z := Z) s_166 0 (by decide) (by decide)
        rw [hM1 0 (by decide)] at q
        exact q
      obtain ⟨J2, k1, k2, k3⟩ := ih f (m + 1) J1 (by omega) (by omega) hM1
      refine ⟨J2, ?_, g2.trans k2, by rw [k3, g3]⟩
      have e : srch (wayF r goal) (c + 1) m = srch (wayF r goal) c (m + 1) := by
        rw [srch, wayF, hs]; rfl
      rw [e, ← k1]
      simp only [r162_5, bA_s, l0, pk_mul, z_i2, Nat.pow_succ]
set_option maxRecDepth 100000 in
set_option maxHeartbeats 8000000 in
theorem c_way_L {goal : Nat} {x2 : Int32} (hx2 : (-1 : Int32) ≤ x2) (hw : wf r N) (hN : N ≤ 2000) (hg : goal < 8) : ∀ (c fuel m : Nat) (I : Nat → Nat → Int32) (D : Nat → Nat → Option Nat), m + c = 4 → c < fuel → DV D K n → CH I D K n 9 r → ∃ I' D', f_X11_way_L21 (fun y40 h39 => some ((-1000000 : Int32), h39)) 0 (nI goal) x2 fuel (enc I D K n Z) (nI m) = some (wayB x2 (srch (wayF r goal) c m), enc I' D' K n Z) ∧ FW I D I' D' ∧ DV D' K n := by
  have h0 : 0 < r 0 := hw.2.1.1
  have h8 := hw.le8.2
  intro c
  induction c with
  | zero =>
    intro fuel m I D hm hf hD hc
    obtain ⟨f, rfl⟩ : ∃ f, fuel = f + 1 := ⟨fuel - 1, by omega⟩
    have e : m = 4 := by omega
    subst e
    exact ⟨I, D, by rw [f_X11_way_L21, if_pos (show (3 : Int32) < nI 4 by decide)]; rfl, FW.rf, hD⟩
  | succ c ih =>
    intro fuel m I D hm hf hD hc
    obtain ⟨f, rfl⟩ : ∃ f, fuel = f + 1 := ⟨fuel - 1, by omega⟩
    have n3 : ¬ (3 : Int32) < nI m := nI_nlt (a := 3) (by omega) (by decide)
    obtain ⟨I1, D1, g1, g2, g3, g4⟩ := c_find (K := K) (n := n) (Z := Z) hw hN hg (show m ≤ 3 by omega) m 5 0 0 [] I D (by omega) (by omega) (by decide) hD hc rfl
    have g1 : fr_X11_findWay 5 (enc I D K n Z) 0 (0 : Int32) (nI goal) (0 : Int32) (nI m) = some (isS (fwW r goal m 0 []), enc I1 D1 K n Z) := g1
    rw [way_eq h0 h8 goal m] at g1 g4
    rw [f_X11_way_L21, if_neg n3]
    cases hs : srch (fun v => leafW r goal (dg (r 0) m v)) (r 0 ^ m) 0 with
    | some q =>
      rw [hs] at g1 g4
      refine ⟨I1, D1, ?_, g2, g3⟩
      have e : srch (wayF r goal) (c + 1) m = some (m, q) := by
        rw [srch, wayF, hs]; rfl
      rw [e]
      simp only [c0, bA_s, f_X11_findWay, g1, b2_s, isS_s, if_neg one0]
      show _ = some (wayA x2 m q, _)
      unfold wayA
      by_cases a : x2 = (-1 : Int32)
      · simp only [if_pos a, bA_s]
      · by_cases b : nI m ≤ x2
        · simp only [if_neg a, if_pos b, bA_s]
        · obtain ⟨k, hk, rfl⟩ := way_ix hx2 a (by omega) b
          have l := ald_n (I := I1) (D := D1) (K := K) (n := n) (Z := Z) s_29 k (show k < 3 by omega) (by decide)
          rw [itm_get (g4.2 q rfl) k hk] at l
          simp only [if_neg a, if_neg b, r0_11, bA_s, aln_e s_29, if_neg (nI_ge (show k < 3 by omega) (show 3 < 2 ^ 31 by decide)), l, nI_clamp (show k < 2 ^ 31 by omega)]
    | none =>
      rw [hs] at g1 g4
      obtain ⟨I2, D2, k1, k2, k3⟩ := ih f (m + 1) I1 D1 (by omega) (by omega) g3 (g2.ho hc hw.le8.1 h8)
      refine ⟨I2, D2, ?_, g2.tr k2, k3⟩
      have e : srch (wayF r goal) (c + 1) m = srch (wayF r goal) c (m + 1) := by
        rw [srch, wayF, hs]; rfl
      rw [e, ← k1]
      simp only [c0, bA_s, f_X11_findWay, g1, b2_s, isS_n, if_true, z_i2]
set_option maxRecDepth 100000 in
set_option maxHeartbeats 8000000 in
theorem k_way (h : Inv I D K n N) (hN : N ≤ 2000) (x y : Int32) : GD Z N (enc I D K n Z) (fun h => f_X11_way h 0 x y) (fun h => f_X12_way h 162 x y) := by
  obtain ⟨r, hc, hM, hw⟩ := h.2.2.1
  obtain ⟨r18, r08⟩ := ho8 hw
  have hM' := thr_M (show 166 ≠ 162 by decide) hM
  by_cases hx : 0 ≤ x.toInt ∧ x.toInt < r 1
  · by_cases hy : (-1 : Int32) ≤ y
    · obtain ⟨g, hg, rfl⟩ := (ix_in (m := r 1) (by omega)).mp hx
      have hwf := rm_wf hw hg
      obtain ⟨I1, D1, a1, a2, a3⟩ := c_way_L (K := K) (n := n) (Z := Z) (goal := g) hy hwf hN (by omega) 4 2000 0 I D (by omega) (by omega) h.2.2.2.2.2.2 hc
      have a1 : f_X11_way_L21 (fun y40 h39 => some ((-1000000 : Int32), h39)) 0 (nI g) y 2000 (enc I D K n Z) (0 : Int32) = _ := a1
      have e166 : thr I1 166 = I 166 := by rw [thr_n (by decide), a2.1 166 (by omega) (by omega) (by omega)]
      have hM1 : MH (thr I1 166) r := by rw [e166]; exact hM
      obtain ⟨J, b1, b2', b3'⟩ := m_way_L (D := D1) (K := K) (n := n) (Z := Z) (goal := g) hy hwf hN (by omega) 4 2000 0 (thr I1) (by omega) (by omega) hM1
      have b1 : f_X12_way_L26 (fun y62 y63 h61 => some ((-1000000 : Int32), h61)) 162 (nI g) y 2000 (enc (thr I1) D1 K n Z) (1 : Int32) (0 : Int32) = _ := b1
      refine ⟨wayB y (srch (wayF r g) 4 0), enc I1 D1 K n Z, J, D1, K, n, ?_, ?_, h.seen a2 a3 (FM.thr.trans b2') (by rw [b3', thr_s (by decide), a2.1 162 (by omega) (by omega) (by omega)])⟩
      · simp only [f_X11_way, r0_3, bA_s, c9, c_lacksRoom h9 r18 hc.1.1, b2_s, if_pos hx, if_true, if_pos hy, a1]
      · simp only [f_X12_way, p_thr, bA_s, c162, m_isRoom hM1 r18, b2_s, if_pos hx, if_neg one0, if_pos hy, b1]
    · refine ⟨-1000001, enc I D K n Z, _, D, K, n, ?_, ?_, h.thr⟩
      · simp only [f_X11_way, r0_3, bA_s, c9, c_lacksRoom h9 r18 hc.1.1, b2_s, if_pos hx, if_true, if_neg hy]
      · simp only [f_X12_way, p_thr, bA_s, c162, m_isRoom hM' r18, b2_s, if_pos hx, if_neg one0, if_neg hy]
  · refine ⟨-1000001, enc I D K n Z, _, D, K, n, ?_, ?_, h.thr⟩
    · simp only [f_X11_way, r0_3, bA_s, c9, c_lacksRoom h9 r18 hc.1.1, b2_s, if_neg hx, if_neg one0]
    · simp only [f_X12_way, p_thr, bA_s, c162, m_isRoom hM' r18, b2_s, if_neg hx, if_true]
end Way2
