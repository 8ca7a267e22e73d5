section ReadE
variable {T : Nat → Nat} {t : Nat} {I : Nat → Nat → Int32} {D : Nat → Nat → Option Nat} {K : Nat → Nat} {n : Nat} {Z : Nat → Cl} {r : Ro}
theorem pDr_e {x : PR} (z : (dr7 T t x.1 x.2).2 = 0) : (pDr T t x).2 = addD x.2 (kb (T x.1.1)) (nvN T t (dr1 T t x.1 x.2).1) (nvN T t (dr3 T t x.1 x.2).1) (nvN T t (dr5 T t x.1 x.2).1) := by
  show (if (dr7 T t x.1 x.2).2 = 0 then _ else x.2) = _
  rw [if_pos z]
theorem c_door (ht : TO T t) {s : PS} (h : Cs T t I s) (hp : s.1 < t) (hk : ¬ kb (T s.1) = 0) (hc : CH I D K n 4 r) (h1 : 1 ≤ r 1) (h18 : r 1 ≤ 8) (h08 : r 0 ≤ 8) (hD : DV D K n) : ∃ I' D' K' n', f_X7_readDoor (enc I D K n Z) 2 = some (enc I' D' K' n' Z) ∧ Cs T t I' (pDr T t (s, r)).1 ∧ ((pDr T t (s, r)).1.2 = 0 → CH I' D' K' n' 4 (pDr T t (s, r)).2) ∧ DV D' K' n' ∧ DK I K n I' K' n' ∧ (∀ x, x < 177 → x ≠ 2 → x ≠ 4 → x ≠ 6 → I' x = I x) ∧ (∀ x, x ≠ 7 → D' x = D x) := by
  have i0 : ∃ I0, (if nI (r 0) < (8 : Int32) then some (enc I D K n Z) else bA (isC (enc I D K n Z) 2 6) fun u15 => bA (f_X7_fail (enc I D K n Z) 2 (3 : Int32)) fun h9 => some h9) = some (enc I0 D K n Z) ∧ Cs T t I0 (dr0 s r) ∧ ∀ x, x ≠ 2 → I0 x = I x := by
    by_cases c : r 0 < 8
    · refine ⟨I, by rw [if_pos (show nI (r 0) < (8 : Int32) from nI_lt (b := 8) c (by decide))], ?_, fun _ _ => rfl⟩
      rw [dr0, if_neg (by omega)]; exact h
    · obtain ⟨J, j1, j2, j3⟩ := c_fail (D := D) (K := K) (n := n) (Z := Z) h (3 : Int32) 3 rfl (by decide)
      refine ⟨J, ?_, ?_, j3⟩
      · rw [if_neg (show ¬ nI (r 0) < (8 : Int32) from nI_nlt (b := 8) (by omega) (by omega)), c2, bA_s, j1, bA_s]
      · rw [dr0, if_pos (by omega)]; exact j2
  obtain ⟨I0, i1, i2, i3⟩ := i0
  have es : ksN T t (dr0 s r).1 = kb (T s.1) := by rw [dr0_1, ksN, if_pos hp]
  have eh : (if (dr0 s r).1 < t then nI (T (dr0 s r).1) else (-1 : Int32)) = nI (T s.1) := by rw [dr0_1, if_pos hp]
  have ch := c_here (D := D) (K := K) (n := n) (Z := Z) ht i2
  rw [eh] at ch
  have cs := c_sort (D := D) (K := K) (n := n) (Z := Z) ht i2
  rw [es] at cs
  obtain ⟨I1, a1, a2, a3⟩ := c_sign (D := D) (K := K) (n := n) (Z := Z) ht i2 (nI (T s.1)) (T s.1) rfl (ht.2 _ hp)
  have a2 : Cs T t I1 (dr1 T t s r) := a2
  have e31 : I1 4 3 = nI (r 1) := by rw [a3 4 (by decide), i3 4 (by decide)]; exact hc.1.1
  have er : nI (r 1) - (1 : Int32) = nI (r 1 - 1) := pk_sub (b := 1) h1
  obtain ⟨y2, I2, b1, b2, b3, b4⟩ := c_num (D := D) (K := K) (n := n) (Z := Z) ht a2 (0 : Int32) (nI (r 1 - 1)) (-1 : Int32) 0 (r 1 - 1) rfl rfl (by decide) (by omega)
  have b2 : Cs T t I2 (dr2 T t s r) := b2
  obtain ⟨I3, d1, d2, d3⟩ := c_sign (D := D) (K := K) (n := n) (Z := Z) ht b2 (44 : Int32) 44 rfl (by decide)
  have d2 : Cs T t I3 (dr3 T t s r) := d2
  have e33 : I3 4 3 = nI (r 1) := by rw [d3 4 (by decide), b3 4 (by decide)]; exact e31
  obtain ⟨y4, I4, f1, f2, f3, f4⟩ := c_num (D := D) (K := K) (n := n) (Z := Z) ht d2 (0 : Int32) (nI (r 1 - 1)) y2 0 (r 1 - 1) rfl rfl (by decide) (by omega)
  have eb : pNm T t 0 (r 1 - 1) y2 (dr3 T t s r) = dr4 T t s r := by
    by_cases z : (dr3 T t s r).2 = 0
    · have z2 : (dr2 T t s r).2 = 0 := (pSg_ok (show (pSg T t 44 (dr2 T t s r)).2 = 0 from z)).1
      rw [b4 z2, dr4]
    · rw [pNm_dead z, dr4, pNm_dead z]
  rw [eb] at f2 f4
  obtain ⟨I5, j1, j2, j3⟩ := c_sign (D := D) (K := K) (n := n) (Z := Z) ht f2 (44 : Int32) 44 rfl (by decide)
  have j2 : Cs T t I5 (dr5 T t s r) := j2
  obtain ⟨y6, I6, k1, k2, k3, k4⟩ := c_num (D := D) (K := K) (n := n) (Z := Z) ht j2 (0 : Int32) (9 : Int32) (-1 : Int32) 0 9 rfl rfl (by decide) (by decide)
  have k2 : Cs T t I6 (dr6 T t s r) := k2
  obtain ⟨I7, m1, m2, m3⟩ := c_sign (D := D) (K := K) (n := n) (Z := Z) ht k2 (59 : Int32) 59 rfl (by decide)
  have m2 : Cs T t I7 (dr7 T t s r) := m2
  have f7 : ∀ x, x ≠ 2 → I7 x = I x := fun x hx => by rw [m3 x hx, k3 x hx, j3 x hx, f3 x hx, d3 x hx, b3 x hx, a3 x hx, i3 x hx]
  have ez : (nI (dr7 T t s r).2 = (0 : Int32)) = ((dr7 T t s r).2 = 0) := z_eq (by have := m2.2.2.2.2.2; omega) (by decide)
  have hc7 : CH I7 D K n 4 r := hc.cells h18 h08 (f7 _ (by decide)) (f7 _ (by decide)) (f7 _ (by decide)) (fun q hq => f7 q (by omega))
  simp only [f_X7_readDoor, r2_1, bA_s, g4_4, hc.1.2.1]
  rw [i1]
  simp only [bA_s, c2, cs, b2_s, ch, a1, r2_1, g4_3, e31, er, b1, d1, e33, f1, j1, k1, m1, g2_4, m2.2.2.1, ez]
  by_cases z : (dr7 T t s r).2 = 0
  · obtain ⟨p1, p2, p3, p4, p5⟩ := dr_ok z
    have hy2 := b4 p2.1
    have hy4 := f4 p3.1
    have hy6 := k4 p4
    have hkb := kb_le (T s.1)
    obtain ⟨I8, D8, K8, n8, w1, w2, w3, w4, w5, w6⟩ := c_addD (Z := Z) hc7 p1 h18 hD (s := kb (T s.1)) (f := nvN T t (dr1 T t s r).1) (b := nvN T t (dr3 T t s r).1) (v := nvN T t (dr5 T t s r).1) (by omega) hkb
    simp only [if_pos z, r2_1, bA_s, c4, hy2, hy4, hy6, w1]
    refine ⟨I8, D8, K8, n8, rfl, ?_, fun _ => ?_, w3, (DK.of (fun q hq => f7 q (by omega))).trans w4, fun x x0 x2 x4 x6 => by rw [w5 x x0 x4 x6, f7 x x2], w6⟩
    · exact Cs.keep m2 (w5 2 (by decide) (by decide) (by decide)) (w5 3 (by decide) (by decide) (by decide))
    · rw [pDr_e (x := (s, r)) z]; exact w2
  · simp only [if_neg z, bA_s]
    exact ⟨I7, D, K, n, rfl, m2, fun q => absurd q z, hD, DK.of (fun q hq => f7 q (by omega)), fun x _ x2 _ _ => f7 x x2, fun _ _ => rfl⟩
theorem pDr_ok {x : PR} (z : (pDr T t x).1.2 = 0) : x.2 0 < 8 ∧ (pDr T t x).2 0 = x.2 0 + 1 ∧ (pDr T t x).2 1 = x.2 1 := by
  have z' : (dr7 T t x.1 x.2).2 = 0 := z
  rw [pDr_e z']
  exact ⟨(dr_ok z').1, addD_0 _ _ _ _ _, addD_o (by decide) (by omega)⟩
theorem c_doors_L (ht : TO T t) : ∀ (c fuel j : Nat) (I : Nat → Nat → Int32) (D : Nat → Nat → Option Nat) (K : Nat → Nat) (n : Nat) (x : PR), c < fuel → j + c ≤ 100 → Cs T t I x.1 → DV D K n → (x.1.2 = 0 → CH I D K n 4 x.2 ∧ 1 ≤ x.2 1 ∧ x.2 1 ≤ 8 ∧ x.2 0 ≤ 8 ∧ 9 ≤ x.2 0 + c) → ∃ I' D' K' n' i, (∀ (β : Type) (kk : Int32 → Hp → Option β), f_X7_read_L73 kk 2 fuel (enc I D K n Z) (nI j) = kk i (enc I' D' K' n' Z)) ∧ Cs T t I' (pDl T t c x).1 ∧ ((pDl T t c x).1.2 = 0 → CH I' D' K' n' 4 (pDl T t c x).2) ∧ DV D' K' n' ∧ DK I K n I' K' n' ∧ (∀ y, y < 177 → y ≠ 2 → y ≠ 4 → y ≠ 6 → I' y = I y) ∧ (∀ y, y ≠ 7 → D' y = D y) := by
  intro c
  induction c with
  | zero =>
    intro fuel j I D K n x hf hj h hD hx
    obtain ⟨f, rfl⟩ : ∃ f, fuel = f + 1 := ⟨fuel - 1, by omega⟩
    have z : ¬ x.1.2 = 0 := fun z => by have := hx z; omega
    have ez : (nI x.1.2 = (0 : Int32)) = (x.1.2 = 0) := z_eq (by have := h.2.2.2.2.2; omega) (by decide)
    have n110 : ¬ (110 : Int32) ≤ nI j := nI_ge (b := 110) (by omega) (by decide)
    refine ⟨I, D, K, n, nI j, fun β kk => ?_, h, fun q => absurd q z, hD, DK.rfl', fun _ _ _ _ _ => rfl, fun _ _ => rfl⟩
    rw [f_X7_read_L73, if_neg n110, g2_4, bA_s, h.2.2.1, if_neg (by rw [ez]; exact z)]
  | succ c ih =>
    intro fuel j I D K n x hf hj h hD hx
    obtain ⟨f, rfl⟩ : ∃ f, fuel = f + 1 := ⟨fuel - 1, by omega⟩
    have ez : (nI x.1.2 = (0 : Int32)) = (x.1.2 = 0) := z_eq (by have := h.2.2.2.2.2; omega) (by decide)
    have n110 : ¬ (110 : Int32) ≤ nI j := nI_ge (b := 110) (by omega) (by decide)
    have ek : (nI (ksN T t x.1.1) = (0 : Int32)) = (ksN T t x.1.1 = 0) := z_eq (by
      have := kb_le (T x.1.1)
      unfold ksN
      split <;> omega) (by decide)
    have un : ∀ (β : Type) (kk : Int32 → Hp → Option β), f_X7_read_L73 kk 2 (f + 1) (enc I D K n Z) (nI j) = (if x.1.2 = 0 then (if ksN T t x.1.1 = 0 then kk (nI j) (enc I D K n Z) else bA (f_X7_readDoor (enc I D K n Z) 2 ) fun h81 => f_X7_read_L73 kk 2 f h81 (nI (j + 1))) else kk (nI j) (enc I D K n Z)) := fun β kk => by
      rw [f_X7_read_L73, if_neg n110, g2_4, bA_s, h.2.2.1]
      simp only [ez]
      by_cases z : x.1.2 = 0
      · simp only [if_pos z, c2, bA_s, c_sort ht h, b2_s, ek, z_i2]
      · simp only [if_neg z]
    rw [pDl]
    by_cases z : x.1.2 = 0
    · obtain ⟨x1, x2, x3, x4, x5⟩ := hx z
      by_cases y : x.1.1 < t ∧ ¬ kb (T x.1.1) = 0
      · have ky : ¬ ksN T t x.1.1 = 0 := by rw [ksN, if_pos y.1]; exact y.2
        obtain ⟨I1, D1, K1, n1, k1, k2, k3, k4, k5, k6, k7⟩ := c_door (Z := Z) ht h y.1 y.2 x1 x2 x3 x4 hD
        have k2 : Cs T t I1 (pDr T t x).1 := k2
        have k3 : (pDr T t x).1.2 = 0 → CH I1 D1 K1 n1 4 (pDr T t x).2 := k3
        obtain ⟨I2, D2, K2, n2, i, m1, m2, m3, m4, m5, m6, m7⟩ := ih f (j + 1) I1 D1 K1 n1 (pDr T t x) (by omega) (by omega) k2 k4 (fun q => by
          obtain ⟨p1, p2, p3⟩ := pDr_ok q
          exact ⟨k3 q, by omega, by omega, by omega, by omega⟩)
        rw [if_pos ⟨z, y⟩]
        refine ⟨I2, D2, K2, n2, i, fun β kk => ?_, m2, m3, m4, k5.trans m5, fun w w0 w2 w4 w6 => by rw [m6 w w0 w2 w4 w6, k6 w w0 w2 w4 w6], fun w hw => by rw [m7 w hw, k7 w hw]⟩
        rw [un, if_pos z, if_neg ky, k1, bA_s]
        exact m1 β kk
      · have ky : ksN T t x.1.1 = 0 := by
          unfold ksN
          by_cases w : x.1.1 < t
          · rw [if_pos w]
            exact Classical.byContradiction fun q => y ⟨w, q⟩
          · rw [if_neg w]
        rw [if_neg (fun q => y q.2)]
        refine ⟨I, D, K, n, nI j, fun β kk => ?_, h, fun _ => x1, hD, DK.rfl', fun _ _ _ _ _ => rfl, fun _ _ => rfl⟩
        rw [un, if_pos z, if_pos ky]
    · rw [if_neg (fun q => z q.1)]
      refine ⟨I, D, K, n, nI j, fun β kk => ?_, h, fun q => absurd q z, hD, DK.rfl', fun _ _ _ _ _ => rfl, fun _ _ => rfl⟩
      rw [un, if_neg z]
end ReadE
