/-! THE CALL who: both loops over what may be so -/
def wh_set (P : Nat → Bool) : Nat → Nat → Int32 → Int32
  | 0, _, a => a
  | m + 1, j, a => wh_set P m (j + 1) (if P j = true then a ||| ((1 : Int32) <<< (nI j &&& 31)) else a)
def wh_cnt (P : Nat → Bool) : Nat → Nat → Nat → Nat
  | 0, _, f => f
  | m + 1, j, f => wh_cnt P m (j + 1) (if P j = true then f + 1 else f)
def wh_first (P : Nat → Bool) : Nat → Nat → Int32
  | 0, _ => -1000000
  | m + 1, j => if P j = true then nI j else wh_first P m (j + 1)
def wh_least (P : Nat → Bool) : Nat → Nat → Nat → Int32 → Int32
  | 0, _, _, l => l
  | m + 1, j, f, l => wh_least P m (j + 1) (if P j = true then f + 1 else f) (if P j = true then (if f = 0 then nI j else l) else l)
theorem wh_least_k (P : Nat → Bool) : ∀ (m j f : Nat) (l : Int32), f ≠ 0 → wh_least P m j f l = l
  | 0, _, _, _, _ => rfl
  | m + 1, j, f, l, h => by
    rw [wh_least, if_neg h]
    by_cases p : P j = true
    · rw [if_pos p, if_pos p]; exact wh_least_k P m _ _ l (by omega)
    · rw [if_neg p, if_neg p]; exact wh_least_k P m _ _ l h
theorem wh_least_0 (P : Nat → Bool) : ∀ (m j : Nat), wh_least P m j 0 (-1000000) = wh_first P m j
  | 0, _ => rfl
  | m + 1, j => by
    rw [wh_least, wh_first, if_pos rfl]
    by_cases p : P j = true
    · rw [if_pos p, if_pos p, if_pos p]; exact wh_least_k P m _ _ _ (by omega)
    · rw [if_neg p, if_neg p, if_neg p]; exact wh_least_0 P m _
theorem uN_same (r : Ro) (j : Nat) : uN r j (r j) = r := by
  funext i
  by_cases h : i = j
  · subst h; rw [uN_s]
  · rw [uN_n _ h]
section Who
variable {I : Nat → Nat → Int32} {D : Nat → Nat → Option Nat} {K : Nat → Nat} {n N : Nat} {Z : Nat → Cl} {r : Ro}
theorem wf.kind {k : Nat} (h : wf r N) {v : Nat} (h1 : 1 ≤ v) (h5 : v ≤ 5) : wf (uN r (14 + 5 * k) v) N := by
  obtain ⟨a1, a2, a3, a4, a5, a6, a7⟩ := h
  have o0 : ∀ j, j ≠ 14 + 5 * k → uN r (14 + 5 * k) v j = r j := fun j h => uN_n _ h
  have os : uN r (14 + 5 * k) v (14 + 5 * k) = v := uN_s _ _ _
  generalize uN r (14 + 5 * k) v = R at o0 os
  refine ⟨?_, ?_, ?_, ?_, ?_, fun j hj => ?_, fun j hj => ?_⟩
  · rw [o0 1 (by omega)]; exact a1
  · rw [o0 0 (by omega)]; exact a2
  · rw [o0 2 (by omega)]; exact a3
  · rw [o0 3 (by omega)]; exact a4
  · rw [o0 4 (by omega)]; exact a5
  · rw [o0 _ (by omega)]; exact a6 j hj
  · rw [o0 0 (by omega)] at hj
    obtain ⟨u1, u2, u3, u4, u5, u6⟩ := a7 j hj
    rw [o0 (15 + 5 * j) (by omega), o0 (16 + 5 * j) (by omega), o0 (17 + 5 * j) (by omega), o0 (18 + 5 * j) (by omega), o0 1 (by omega)]
    refine ⟨?_, u2, u3, u4, u5, u6⟩
    by_cases e : j = k
    · subst e; rw [os]; exact ⟨h1, h5⟩
    · rw [o0 _ (by omega)]; exact u1
theorem wf.num {k : Nat} (h : wf r N) {v : Nat} (h9 : v ≤ 9) : wf (uN r (17 + 5 * k) v) N := by
  obtain ⟨a1, a2, a3, a4, a5, a6, a7⟩ := h
  have o0 : ∀ j, j ≠ 17 + 5 * k → uN r (17 + 5 * k) v j = r j := fun j h => uN_n _ h
  have os : uN r (17 + 5 * k) v (17 + 5 * k) = v := uN_s _ _ _
  generalize uN r (17 + 5 * k) v = R at o0 os
  refine ⟨?_, ?_, ?_, ?_, ?_, fun j hj => ?_, fun j hj => ?_⟩
  · rw [o0 1 (by omega)]; exact a1
  · rw [o0 0 (by omega)]; exact a2
  · rw [o0 2 (by omega)]; exact a3
  · rw [o0 3 (by omega)]; exact a4
  · rw [o0 4 (by omega)]; exact a5
  · rw [o0 _ (by omega)]; exact a6 j hj
  · rw [o0 0 (by omega)] at hj
    obtain ⟨u1, u2, u3, u4, u5, u6⟩ := a7 j hj
    rw [o0 (14 + 5 * j) (by omega), o0 (15 + 5 * j) (by omega), o0 (16 + 5 * j) (by omega), o0 (18 + 5 * j) (by omega), o0 1 (by omega)]
    refine ⟨u1, u2, u3, u4, ?_, u6⟩
    by_cases e : j = k
    · subst e; rw [os]; exact h9
    · rw [o0 _ (by omega)]; exact u5
/-- a house of which one number is so, as both sides try it -/
def wh_P (r : Ro) (p : Nat) (xs : List Int32) (v : Int32) (j : Nat) : Bool := decide (nI (outN (wGo (uN r p j) xs)) = v)
theorem wh_P_t {p : Nat} {xs : List Int32} {v : Int32} {j : Nat} : (wh_P r p xs v j = true) = (nI (outN (wGo (uN r p j) xs)) = v) := by
  unfold wh_P; rw [decide_eq_true_eq]
theorem c_numberOf {k : Nat} (hc : CH I D K n 17 r) (h08 : r 0 ≤ 8) (hk : k < r 0) : f_X3_numberOf (enc I D K n Z) 17 (nI k) = some (nI (r (17 + 5 * k)), enc I D K n Z) := by
  obtain ⟨q, hq1, hq2⟩ := hc.2.2.2 k hk
  simp only [f_X3_numberOf, c17, bA_s, c_doorAt_in h17 h08 hc.1.2.1 hk, b2_s, hq1, gD_e hq2.1 3 (by decide), hq2.2.2.2.2.2]
theorem c_sortOf {k : Nat} (hc : CH I D K n 17 r) (h08 : r 0 ≤ 8) (hk : k < r 0) : f_X3_sortOf (enc I D K n Z) 17 (nI k) = some (nI (r (14 + 5 * k)), enc I D K n Z) := by
  obtain ⟨q, hq1, hq2⟩ := hc.2.2.2 k hk
  simp only [f_X3_sortOf, c17, bA_s, c_doorAt_in h17 h08 hc.1.2.1 hk, b2_s, hq1, gC_e hq2.1, d_sort hq2]
/-- the class tries a door -/
theorem c_tryD {x1 i c k s v : Nat} (hx1 : ∀ (K : Nat → Nat) (n : Nat), shp K n x1 = some (.inr (.inl (0, 40)))) (hx2 : 23 < x1) (hx3 : x1 < 177) (hD : DV D K n) (hc : CH I D K n 9 r) (hw : wf r N) (hwf : wf (uN (uN r (14 + 5 * k) s) (17 + 5 * k) v) N) (hN : N ≤ 2000) (hi : i + c ≤ 40) (hc8 : c ≤ 8) (hk : k < r 0) (s1 : 1 ≤ s) (s5 : s ≤ 5) : ∃ I1 D1 I2 D2 K2 n2 I3, f_X3_become (enc I D K n Z) 17 9 = some (enc I1 D1 K n Z) ∧ CH I1 D1 K n 17 r ∧ f_X3_changeDoor (enc I1 D1 K n Z) 17 (nI k) (nI s) (nI v) = some (enc I2 D2 K2 n2 Z) ∧ f_X10_go (enc I2 D2 K2 n2 Z) 16 x1 (nI i) (nI c) = some (enc I3 D2 K2 n2 Z) ∧ f_X10_outcome (enc I3 D2 K2 n2 Z) 16 = some (nI (outN (wGo (uN (uN r (14 + 5 * k) s) (17 + 5 * k) v) (itm (I x1) i c))), enc I3 D2 K2 n2 Z) ∧ FE I D K n I3 D2 K2 n2 ∧ DV D2 K2 n2 := by
  obtain ⟨I1, D1, b1, b2', b3', b4'⟩ := c_bd (I := I) (D := D) (K := K) (n := n) (Z := Z) hD hc hw.le8.1 hw.le8.2
  obtain ⟨I2, D2, K2, n2, e1, e2, e3, e4⟩ := c_change (I := I1) (D := D1) (K := K) (n := n) (Z := Z) (v := v) b2' hw.le8.1 hw.le8.2 b4' hk s1 s5
  obtain ⟨I3, g1, g2, g3, g4⟩ := c_gd (I := I2) (D := D2) (K := K2) (n := n2) (Z := Z) (hx1 K2 n2) (by decide) hx2 e2 hwf hN hi hc8
  have ex : I2 x1 = I x1 := by rw [e3.1 x1 (by omega) hx3, b3'.1 x1 (by omega)]
  rw [ex] at g2 g3
  exact ⟨I1, D1, I2, D2, K2, n2, I3, b1, b2', e1, g1, c_outcome g3 (wGo_f _), (b3'.fe).tr (e3.tr g4.fe), e4⟩
theorem c_tryK {x1 i c v : Nat} (hx1 : ∀ (K : Nat → Nat) (n : Nat), shp K n x1 = some (.inr (.inl (0, 40)))) (hx2 : 23 < x1) (hD : DV D K n) (hc : CH I D K n 9 r) (hw : wf r N) (hN : N ≤ 2000) (hi : i + c ≤ 40) (hc8 : c ≤ 8) (hv : v ≤ 63) : ∃ I1 D1 I2 I3, f_X3_become (enc I D K n Z) 17 9 = some (enc I1 D1 K n Z) ∧ pV (enc I1 D1 K n Z) 17 2 7 (.inl (nI v)) = some (enc I2 D1 K n Z) ∧ f_X10_go (enc I2 D1 K n Z) 16 x1 (nI i) (nI c) = some (enc I3 D1 K n Z) ∧ f_X10_outcome (enc I3 D1 K n Z) 16 = some (nI (outN (wGo (uN r 4 v) (itm (I x1) i c))), enc I3 D1 K n Z) ∧ FE I D K n I3 D1 K n ∧ DV D1 K n := by
  obtain ⟨I1, D1, b1, b2', b3', b4'⟩ := c_bd (I := I) (D := D) (K := K) (n := n) (Z := Z) hD hc hw.le8.1 hw.le8.2
  have hs := b2'.slot h17 hw.le8.1 (s := 7) (i := 4) (by omega) v
  have hwv : wf (uN r 4 v) N := hw.low (by omega)
  have hp := p17_7 (I := I1) (D := D1) (K := K) (n := n) (Z := Z) (nI v)
  generalize hI1' : va_up I1 17 (upd (I1 17) 7 (nI v)) = I2 at hs hp
  have fd1 : FD I D I2 D1 := b3'.trans ⟨fun x hx => by rw [← hI1', va_up_ne _ _ (by omega)], fun _ _ => rfl⟩
  obtain ⟨I3, g1, g2, g3, g4⟩ := c_gd (I := I2) (D := D1) (K := K) (n := n) (Z := Z) (hx1 K n) (by decide) hx2 hs hwv hN hi hc8
  rw [fd1.1 x1 (by omega)] at g2 g3
  exact ⟨I1, D1, I2, I3, b1, hp, g1, c_outcome g3 (wGo_f _), (fd1.trans g4).fe, b4'⟩
set_option maxRecDepth 100000 in
set_option maxHeartbeats 8000000 in
theorem c_kinds_L {β : Type} (kk : Int32 → Int32 → Hp → Option β) {x1 i c k : Nat} {v : Int32} {xs : List Int32} (hx1 : ∀ (K : Nat → Nat) (n : Nat), shp K n x1 = some (.inr (.inl (0, 40)))) (hx2 : 23 < x1) (hx3 : x1 < 177) (hw : wf r N) (hN : N ≤ 2000) (hi : i + c ≤ 40) (hc8 : c ≤ 8) (hk : k < r 0) : ∀ (m fuel j : Nat) (I : Nat → Nat → Int32) (D : Nat → Nat → Option Nat) (K : Nat → Nat) (n : Nat) (a : Int32), 1 ≤ j → j + m = 6 → m < fuel → DV D K n → CH I D K n 9 r → itm (I x1) i c = xs → ∃ I' D' K' n', f_X11_kindsFor_L6 kk 0 (nI k) x1 (nI i) (nI c) v fuel (enc I D K n Z) a (nI j) = kk (wh_set (wh_P r (14 + 5 * k) xs v) m j a) (nI 6) (enc I' D' K' n' Z) ∧ FE I D K n I' D' K' n' ∧ DV D' K' n' := by
  intro m
  induction m with
  | zero =>
    intro fuel j I D K n a h1 hj hf hD hc hx
    obtain ⟨f, rfl⟩ : ∃ f, fuel = f + 1 := ⟨fuel - 1, by omega⟩
    have e : j = 6 := by omega
    subst e
    exact ⟨I, D, K, n, by rw [f_X11_kindsFor_L6, if_pos (show (5 : Int32) < nI 6 by decide)]; rfl, FE.rf, hD⟩
  | succ m ih =>
    intro fuel j I D K n a h1 hj hf hD hc hx
    obtain ⟨f, rfl⟩ : ∃ f, fuel = f + 1 := ⟨fuel - 1, by omega⟩
    have e5 : ¬ (5 : Int32) < nI j := nI_nlt (a := 5) (by omega) (by decide)
    have er : uN (uN r (14 + 5 * k) j) (17 + 5 * k) (r (17 + 5 * k)) = uN r (14 + 5 * k) j := by
      have q := uN_same (uN r (14 + 5 * k) j) (17 + 5 * k)
      rw [uN_n _ (show 17 + 5 * k ≠ 14 + 5 * k by omega)] at q
      exact q
    obtain ⟨I1, D1, I2, D2, K2, n2, I3, t1, t2, t3, t4, t5, t6, t7⟩ := c_tryD (I := I) (D := D) (K := K) (n := n) (Z := Z) (k := k) (s := j) (v := r (17 + 5 * k)) hx1 hx2 hx3 hD hc hw (by rw [er]; exact hw.kind (by omega) (by omega)) hN hi hc8 hk (by omega) (by omega)
    rw [er, hx] at t5
    obtain ⟨I', D', K', n', g1, g2, g3⟩ := ih f (j + 1) I3 D2 K2 n2 (if wh_P r (14 + 5 * k) xs v j = true then a ||| ((1 : Int32) <<< (nI j &&& 31)) else a) (by omega) (by omega) (by omega) t7 (t6.ho hc hw.le8.1 hw.le8.2) (by rw [t6.1 x1 (by omega) hx3]; exact hx)
    refine ⟨I', D', K', n', ?_, t6.tr g2, g3⟩
    rw [f_X11_kindsFor_L6, if_neg e5]
    rw [wh_set, ← g1]
    simp only [r0_6, r0_3, bA_s, c17, t1, c_numberOf t2 hw.le8.2 hk, b2_s, t3, r0_5, c16, t4, t5, z_i2, wh_P_t]
    by_cases p : nI (outN (wGo (uN r (14 + 5 * k) j) xs)) = v
    · simp only [if_pos p, bA_s]
    · simp only [if_neg p, bA_s]
set_option maxRecDepth 100000 in
set_option maxHeartbeats 8000000 in
theorem c_numbers_L {β : Type} (kk : Int32 → Int32 → Hp → Option β) {x1 i c k : Nat} {v : Int32} {xs : List Int32} (hx1 : ∀ (K : Nat → Nat) (n : Nat), shp K n x1 = some (.inr (.inl (0, 40)))) (hx2 : 23 < x1) (hx3 : x1 < 177) (hw : wf r N) (hN : N ≤ 2000) (hi : i + c ≤ 40) (hc8 : c ≤ 8) (hk : k < r 0) : ∀ (m fuel j : Nat) (I : Nat → Nat → Int32) (D : Nat → Nat → Option Nat) (K : Nat → Nat) (n : Nat) (a : Int32), j + m = 10 → m < fuel → DV D K n → CH I D K n 9 r → itm (I x1) i c = xs → ∃ I' D' K' n', f_X11_numbersFor_L6 kk 0 (nI k) x1 (nI i) (nI c) v fuel (enc I D K n Z) a (nI j) = kk (wh_set (wh_P r (17 + 5 * k) xs v) m j a) (nI 10) (enc I' D' K' n' Z) ∧ FE I D K n I' D' K' n' ∧ DV D' K' n' := by
  intro m
  induction m with
  | zero =>
    intro fuel j I D K n a hj hf hD hc hx
    obtain ⟨f, rfl⟩ : ∃ f, fuel = f + 1 := ⟨fuel - 1, by omega⟩
    have e : j = 10 := by omega
    subst e
    exact ⟨I, D, K, n, by rw [f_X11_numbersFor_L6, if_pos (show (9 : Int32) < nI 10 by decide)]; rfl, FE.rf, hD⟩
  | succ m ih =>
    intro fuel j I D K n a hj hf hD hc hx
    obtain ⟨f, rfl⟩ : ∃ f, fuel = f + 1 := ⟨fuel - 1, by omega⟩
    have e5 : ¬ (9 : Int32) < nI j := nI_nlt (a := 9) (by omega) (by decide)
    have er : uN (uN r (14 + 5 * k) (r (14 + 5 * k))) (17 + 5 * k) j = uN r (17 + 5 * k) j := by rw [uN_same]
    have hkd := (hw.2.2.2.2.2.2 k hk).1
    obtain ⟨I1, D1, I2, D2, K2, n2, I3, t1, t2, t3, t4, t5, t6, t7⟩ := c_tryD (I := I) (D := D) (K := K) (n := n) (Z := Z) (k := k) (s := r (14 + 5 * k)) (v := j) hx1 hx2 hx3 hD hc hw (by rw [er]; exact hw.num (by omega)) hN hi hc8 hk hkd.1 hkd.2
    rw [er, hx] at t5
    obtain ⟨I', D', K', n', g1, g2, g3⟩ := ih f (j + 1) I3 D2 K2 n2 (if wh_P r (17 + 5 * k) xs v j = true then a ||| ((1 : Int32) <<< (nI j &&& 31)) else a) (by omega) (by omega) t7 (t6.ho hc hw.le8.1 hw.le8.2) (by rw [t6.1 x1 (by omega) hx3]; exact hx)
    refine ⟨I', D', K', n', ?_, t6.tr g2, g3⟩
    rw [f_X11_numbersFor_L6, if_neg e5]
    rw [wh_set, ← g1]
    simp only [r0_6, r0_3, bA_s, c17, t1, c_sortOf t2 hw.le8.2 hk, b2_s, t3, r0_5, c16, t4, t5, z_i2, wh_P_t]
    by_cases p : nI (outN (wGo (uN r (17 + 5 * k) j) xs)) = v
    · simp only [if_pos p, bA_s]
    · simp only [if_neg p, bA_s]
set_option maxRecDepth 100000 in
set_option maxHeartbeats 8000000 in
theorem c_keys_L (kk : Int32 → Int32 → Hp → Option (Int32 × Hp)) {x1 i c : Nat} {b v : Int32} {xs : List Int32} (hx1 : ∀ (K : Nat → Nat) (n : Nat), shp K n x1 = some (.inr (.inl (0, 40)))) (hx2 : 23 < x1) (hx3 : x1 < 177) (hw : wf r N) (hN : N ≤ 2000) (hi : i + c ≤ 40) (hc8 : c ≤ 8) (hkk : ∀ y z h, kk y z h = some (if b = 0 then y else (-1000000 : Int32), h)) : ∀ (m fuel j : Nat) (I : Nat → Nat → Int32) (D : Nat → Nat → Option Nat) (a : Nat), j + m = 64 → m < fuel → DV D K n → CH I D K n 9 r → itm (I x1) i c = xs → ∃ I' D', f_X11_keysFor_L6 kk 0 b x1 (nI i) (nI c) v fuel (enc I D K n Z) (nI a) (nI j) = some (if b = 0 then nI (wh_cnt (wh_P r 4 xs v) m j a) else wh_first (wh_P r 4 xs v) m j, enc I' D' K n Z) ∧ FE I D K n I' D' K n ∧ DV D' K n := by
  intro m
  induction m with
  | zero =>
    intro fuel j I D a hj hf hD hc hx
    obtain ⟨f, rfl⟩ : ∃ f, fuel = f + 1 := ⟨fuel - 1, by omega⟩
    have e : j = 64 := by omega
    subst e
    exact ⟨I, D, by rw [f_X11_keysFor_L6, if_pos (show (63 : Int32) < nI 64 by decide), hkk]; rfl, FE.rf, hD⟩
  | succ m ih =>
    intro fuel j I D a hj hf hD hc hx
    obtain ⟨f, rfl⟩ : ∃ f, fuel = f + 1 := ⟨fuel - 1, by omega⟩
    have e5 : ¬ (63 : Int32) < nI j := nI_nlt (a := 63) (by omega) (by decide)
    obtain ⟨I1, D1, I2, I3, t1, t3, t4, t5, t6, t7⟩ := c_tryK (I := I) (D := D) (K := K) (n := n) (Z := Z) (v := j) hx1 hx2 hD hc hw hN hi hc8 (by omega)
    rw [hx] at t5
    have nx : ∀ a', ∃ I' D', f_X11_keysFor_L6 kk 0 b x1 (nI i) (nI c) v f (enc I3 D1 K n Z) (nI a') (nI (j + 1)) = some (if b = 0 then nI (wh_cnt (wh_P r 4 xs v) m (j + 1) a') else wh_first (wh_P r 4 xs v) m (j + 1), enc I' D' K n Z) ∧ FE I3 D1 K n I' D' K n ∧ DV D' K n := fun a' => ih f (j + 1) I3 D1 a' (by omega) (by omega) t7 (t6.ho hc hw.le8.1 hw.le8.2) (by rw [t6.1 x1 (by omega) hx3]; exact hx)
    rw [f_X11_keysFor_L6, if_neg e5, wh_cnt, wh_first]
    simp only [r0_6, r0_3, bA_s, c17, t1, b2_s, t3, r0_5, c16, t4, t5, z_i2, wh_P_t]
    by_cases p : nI (outN (wGo (uN r 4 j) xs)) = v
    · simp only [if_pos p]
      by_cases q : b = 0
      · obtain ⟨I', D', g1, g2, g3⟩ := nx (a + 1)
        simp only [if_pos q] at g1 ⊢
        exact ⟨I', D', g1, t6.tr g2, g3⟩
      · simp only [if_neg q]
        exact ⟨I3, D1, rfl, t6, t7⟩
    · obtain ⟨I', D', g1, g2, g3⟩ := nx a
      simp only [if_neg p]
      exact ⟨I', D', g1, t6.tr g2, g3⟩
set_option maxRecDepth 100000 in
set_option maxHeartbeats 8000000 in
theorem m_who_L {β : Type} (kk : Int32 → Int32 → Int32 → Int32 → Hp → Option β) (x1 x2 x3 x4 v x7 : Int32) {c p hi' : Nat} {xs : List Int32} (hp : p < 54) (hh : hi' < 2000) {lo : Nat} (hwf : ∀ j, lo ≤ j → j ≤ hi' → wf (uN r p j) N) (hN : N ≤ 2000) (hc8 : c ≤ 8) : ∀ (m fuel j : Nat) (J : Nat → Nat → Int32) (a : Int32) (f : Nat) (l : Int32), lo ≤ j → j + m = hi' + 1 → m < fuel → f + m < 2000 → MH (J 166) r → itm (J 171) 0 c = xs → ∃ J' a', f_X12_who_L154 kk 162 x1 x2 x3 x4 (nI c) v x7 (nI p) (nI hi') fuel (enc J D K n Z) a (nI f) l (nI j) = kk a' (nI (wh_cnt (wh_P r p xs v) m j f)) (wh_least (wh_P r p xs v) m j f l) (nI (hi' + 1)) (enc J' D K n Z) ∧ (¬ (2 : Int32) ≤ x2 → a' = wh_set (wh_P r p xs v) m j a) ∧ LM J J' := by
  intro m
  induction m with
  | zero =>
    intro fuel j J a f l h1 hj hf hfm hM hx
    obtain ⟨g, rfl⟩ : ∃ g, fuel = g + 1 := ⟨fuel - 1, by omega⟩
    have e : j = hi' + 1 := by omega
    subst e
    exact ⟨J, a, by rw [f_X12_who_L154, if_pos (nI_lt (by omega) (by omega))]; rfl, fun _ => rfl, LM.rf J⟩
  | succ m ih =>
    intro fuel j J a f l h1 hj hf hfm hM hx
    obtain ⟨g, rfl⟩ : ∃ g, fuel = g + 1 := ⟨fuel - 1, by omega⟩
    have e5 : ¬ nI hi' < nI j := nI_nlt (by omega) (by omega)
    obtain ⟨J2, J2', J3, t1, t2, t3, t4, t5⟩ := m_try (D := D) (K := K) (n := n) (Z := Z) hM (j := p) (v := j) hp (hwf j h1 (by omega)) hN hc8
    rw [hx] at t3 t4
    have hgf : (wGo (uN r p j) xs).2.1 < 2 ^ 31 := wGo_f _
    have mo := m_outcome hgf
    have v25 := t4.1.2.2.2.2
    have nx : ∀ a' f' l', f' + m < 2000 → _ := fun a' f' l' hq => ih g (j + 1) J3 a' f' l' (by omega) (by omega) (by omega) hq (by rw [t5.row]; exact hM) (by rw [t5.2.1]; exact hx)
    have co : ∀ w : Int32, f_X12_doesComeTo (enc J2' D K n Z) 162 (nI c) w = some (if nI (outN (wGo (uN r p j) xs)) = w then (1 : Int32) else 0, enc J3 D K n Z) := by
      intro w
      simp only [f_X12_doesComeTo, r162_7, bA_s, c162, t3, b2_s, g162_25, v25]
      rw [show (if nI (wGo (uN r p j) xs).2.1 = (0 : Int32) then some (nI (wGo (uN r p j) xs).2.2) else some ((1000 : Int32) + nI (wGo (uN r p j) xs).2.1)) = some (nI (outN (wGo (uN r p j) xs))) from mo, bA_s]
      by_cases q : nI (outN (wGo (uN r p j) xs)) = w
      · simp only [if_pos q, bA_s, bz1]
      · simp only [if_neg q, bA_s, bz0]
    have ef : (nI f = (0 : Int32)) = (f = 0) := z_eq (by omega) (by decide)
    rw [f_X12_who_L154, if_neg e5, wh_cnt, wh_least, wh_set]
    simp only [c162, bA_s, t1, r162_7, t2, co, b2_s, wh_P_t, ef]
    by_cases q : nI (outN (wGo (uN r p j) xs)) = v
    · obtain ⟨J', a', g1, g2, g3⟩ := nx (a ||| (if (2 : Int32) ≤ x2 then (0 : Int32) else (1 : Int32) <<< (nI j &&& 31))) (f + 1) (if f = 0 then nI j else l) (by omega)
      refine ⟨J', a', ?_, fun z => ?_, t5.tr g3⟩
      · simp only [if_pos q, if_neg one0, z_i2]
        rw [← g1]
        by_cases z : (2 : Int32) ≤ x2 <;> by_cases z2 : f = 0 <;> simp only [z, z2, if_true, if_false, bA_s, b3_s, z_i2]
      · rw [g2 z, if_neg z, if_pos q]
    · obtain ⟨J', a', g1, g2, g3⟩ := nx a f l (by omega)
      refine ⟨J', a', ?_, fun z => ?_, t5.tr g3⟩
      · simp only [if_neg q, if_true, b3_s, z_i2]
        rw [← g1]
      · rw [g2 z, if_neg q]
end Who
