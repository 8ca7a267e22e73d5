section ReadF
variable {T : Nat → Nat} {t : Nat} {I : Nat → Nat → Int32} {D : Nat → Nat → Option Nat} {K : Nat → Nat} {n : Nat} {Z : Nat → Cl} {r : Ro}
/-- the class looks whether there are rooms enough -/
theorem c_enough (ht : TO T t) {s : PS} (h : Cs T t I s) (hr : s.2 = 0 → I 4 3 = nI (r 1) ∧ r 1 ≤ 8) : ∃ I', (if (2 : Int32) ≤ I 4 3 then some (enc I D K n Z) else bA (isC (enc I D K n Z) 2 6) fun u64 => bA (f_X7_fail (enc I D K n Z) 2 (1 : Int32)) fun h58 => some h58) = some (enc I' D K n Z) ∧ Cs T t I' (if r 1 < 2 then pBd 1 s else s) ∧ ∀ x, x ≠ 2 → I' x = I x := by
  obtain ⟨J, j1, j2, j3⟩ := c_fail (D := D) (K := K) (n := n) (Z := Z) h (1 : Int32) 1 rfl (by decide)
  by_cases z : s.2 = 0
  · obtain ⟨e, e8⟩ := hr z
    have e2 : ((2 : Int32) ≤ nI (r 1)) = (2 ≤ r 1) := z_le (k := 2) (by decide) (by omega)
    rw [e]
    simp only [e2]
    by_cases c : r 1 < 2
    · refine ⟨J, ?_, ?_, j3⟩
      · rw [if_neg (by omega), c2, bA_s, j1, bA_s]
      · rw [if_pos c]; exact j2
    · refine ⟨I, ?_, ?_, fun _ _ => rfl⟩
      · rw [if_pos (by omega)]
      · rw [if_neg c]; exact h
  · have e : (if r 1 < 2 then pBd 1 s else s) = s := by
      split
      · exact pBd_dead z
      · rfl
    rw [e]
    rw [pBd_dead z] at j2
    by_cases c : (2 : Int32) ≤ I 4 3
    · exact ⟨I, by rw [if_pos c], h, fun _ _ => rfl⟩
    · exact ⟨J, by rw [if_neg c, c2, bA_s, j1, bA_s], j2, j3⟩
theorem c_whole (ht : TO T t) {s : PS} (h : Cs T t I s) (hr : s.2 = 0 → I 4 4 = nI (r 0) ∧ r 0 ≤ 8) : ∃ I', (if I 4 4 < (1 : Int32) then bA (isC (enc I D K n Z) 2 6) fun u106 => bA (f_X7_fail (enc I D K n Z) 2 (1 : Int32)) fun h100 => some h100 else bA (gI (enc I D K n Z) 2 6 3) fun g110 => bA (gI (enc I D K n Z) 2 6 2) fun g112 => (if g112 ≤ g110 then some (enc I D K n Z) else bA (isC (enc I D K n Z) 2 6) fun u120 => bA (f_X7_fail (enc I D K n Z) 2 (1 : Int32)) fun h114 => some h114)) = some (enc I' D K n Z) ∧ Cs T t I' (if r 0 < 1 ∨ s.1 < t then pBd 1 s else s) ∧ ∀ x, x ≠ 2 → I' x = I x := by
  obtain ⟨J, j1, j2, j3⟩ := c_fail (D := D) (K := K) (n := n) (Z := Z) h (1 : Int32) 1 rfl (by decide)
  have h' := h
  obtain ⟨h1, h2, h3, h4, h5, h6⟩ := h'
  have t1 := ht.1
  have e : (nI t ≤ nI s.1) = (t ≤ s.1) := z_le (by omega) (by omega)
  simp only [g2_3, g2_2, bA_s, h1, h2, e, c2, j1]
  by_cases z : s.2 = 0
  · obtain ⟨e4, e8⟩ := hr z
    have e2 : (nI (r 0) < (1 : Int32)) = (r 0 < 1) := z_lt (m := 1) (by omega) (by decide)
    rw [e4]
    simp only [e2]
    by_cases c : r 0 < 1
    · refine ⟨J, ?_, ?_, j3⟩
      · rw [if_pos c]
      · rw [if_pos (Or.inl c)]; exact j2
    · by_cases d : s.1 < t
      · refine ⟨J, ?_, ?_, j3⟩
        · rw [if_neg c, if_neg (by omega)]
        · rw [if_pos (Or.inr d)]; exact j2
      · refine ⟨I, ?_, ?_, fun _ _ => rfl⟩
        · rw [if_neg c, if_pos (by omega)]
        · rw [if_neg (by omega)]; exact h
  · have e' : (if r 0 < 1 ∨ s.1 < t then pBd 1 s else s) = s := by
      split
      · exact pBd_dead z
      · rfl
    rw [e']
    rw [pBd_dead z] at j2
    by_cases c : I 4 4 < (1 : Int32)
    · exact ⟨J, by rw [if_pos c], j2, j3⟩
    · by_cases d : s.1 < t
      · exact ⟨J, by rw [if_neg c, if_neg (by omega)], j2, j3⟩
      · exact ⟨I, by rw [if_neg c, if_pos (by omega)], h, fun _ _ => rfl⟩
theorem c_read (ht : TO T t) (h2 : I 2 2 = nI t) (h3 : ∀ j, j < t → I 3 j = nI (T j)) (hD : DV D K n) : ∃ I' D' K' n', f_X7_read (enc I D K n Z) 2 = some (enc I' D' K' n' Z) ∧ I' 2 2 = nI 0 ∧ I' 2 3 = nI (pD2 T t).1 ∧ I' 2 4 = nI (pD2 T t).2 ∧ ((pD2 T t).2 = 0 → CH I' D' K' n' 4 (pD1 T t).2) ∧ DV D' K' n' ∧ DK I K n I' K' n' ∧ (∀ x, x < 177 → x ≠ 2 → x ≠ 4 → x ≠ 5 → x ≠ 6 → I' x = I x) ∧ (∀ x, x ≠ 7 → D' x = D x) ∧ ((pD2 T t).1 ≤ t ∧ (pD2 T t).2 ≤ 3) := by
  have t1 := ht.1
  obtain ⟨J0, e0⟩ : ∃ J, va_up I 2 (upd (upd (I 2) 3 (0 : Int32)) 4 (0 : Int32)) = J := ⟨_, rfl⟩
  have f0 : ∀ x, x ≠ 2 → J0 x = I x := fun x hx => by rw [← e0, va_up_ne _ _ hx]
  have s0 : Cs T t J0 (0, 0) := by
    refine ⟨?_, ?_, ?_, ?_, Nat.zero_le _, Nat.zero_le _⟩
    · rw [← e0, va_up_self, pk_un (by decide), pk_un (by decide)]; exact h2
    · rw [← e0, va_up_self, pk_un (by decide), pk_us]; rfl
    · rw [← e0, va_up_self, pk_us]; rfl
    · intro j hj; rw [f0 3 (by decide)]; exact h3 j hj
  obtain ⟨J1, e1⟩ : ∃ J, va_up J0 4 (upd (upd (upd (J0 4) 3 (0 : Int32)) 4 (0 : Int32)) 8 (0 : Int32)) = J := ⟨_, rfl⟩
  have f1 : ∀ x, x ≠ 4 → J1 x = J0 x := fun x hx => by rw [← e1, va_up_ne _ _ hx]
  have s1 : Cs T t J1 (0, 0) := s0.keep (f1 2 (by decide)) (f1 3 (by decide))
  obtain ⟨I1, a1, a2, a3, a4, a5⟩ := c_law (D := D) (K := K) (n := n) (Z := Z) ht s1
  have hCH : (pl7 T t).2 = 0 → CH I1 D K n 4 (lawR T t) := fun z => by
    have q0 := (lawR_pw z).2.1
    have q1 := (lawR_pw z).2.2
    have w := a5 z
    refine ⟨⟨?_, ?_, w.1, w.2.1, w.2.2, ?_⟩, fun k hk => by omega, fun k hk => by omega, fun k hk => by omega⟩
    · rw [a4 3 (by decide) (by decide) (by decide), ← e1, va_up_self, q1]; rfl
    · rw [a4 4 (by decide) (by decide) (by decide), ← e1, va_up_self, q0]; rfl
    · rw [a4 8 (by decide) (by decide) (by decide), ← e1, va_up_self, lawR_o T t (by decide) (by decide) (by decide)]; rfl
  obtain ⟨I2, i2, b1, b2, b3, b4⟩ := c_rooms_L (D := D) (K := K) (n := n) (Z := Z) ht 9 2000 0 I1 (pl7 T t, lawR T t) (by decide) (by decide) a2 (fun z => ⟨hCH z, by have := (lawR_pw z).2.2; show lawR T t 1 ≤ 8; omega, (lawR_pw z).2.1, by show 9 ≤ lawR T t 1 + 9; omega⟩)
  rw [← pR1] at b2 b3
  have b1 : ∀ (β : Type) (kk : Int32 → Hp → Option β), f_X7_read_L23 kk 2 2000 (enc I1 D K n Z) (0 : Int32) = kk i2 (enc I2 D K n Z) := b1
  obtain ⟨I3, d1, d2, d3⟩ := c_enough (D := D) (K := K) (n := n) (Z := Z) (r := (pR1 T t).2) ht b2 (fun z => ⟨(b3 z).1.1, (pR1_pw z).1.2.2.2.2.1⟩)
  have d2 : Cs T t I3 (pR2 T t).1 := by unfold pR2; exact d2
  obtain ⟨I4, D4, K4, n4, i4, g1, g2, g3, g4, g5, g6, g7⟩ := c_doors_L (Z := Z) ht 9 120 0 I3 D K n (pR2 T t) (by decide) (by decide) d2 hD (fun z => by
    obtain ⟨y1, y2, y3⟩ := pR2_ok z
    have y4 := pR1_pw y1
    rw [pR2_2]
    refine ⟨(b3 y1).cells y4.1.2.2.2.2.1 (by omega) (d3 _ (by decide)) (d3 _ (by decide)) (d3 _ (by decide)) (fun q hq => d3 q (by omega)), by omega, y4.1.2.2.2.2.1, by omega, by omega⟩)
  rw [← pD1_e] at g2 g3
  have g1 : ∀ (β : Type) (kk : Int32 → Hp → Option β), f_X7_read_L73 kk 2 120 (enc I3 D K n Z) (0 : Int32) = kk i4 (enc I4 D4 K4 n4 Z) := g1
  have w08 : (pD1 T t).1.2 = 0 → (pD1 T t).2 0 ≤ 8 := fun z => by
    rw [pD1_e] at z ⊢
    exact (pDl_pw (T := T) (t := t) 9 (pR2 T t) (fun z => by rw [pR2_2]; exact ⟨(pR1_pw (pR2_ok z).1).1, (pR2_ok z).2.1⟩) z).1.2.2.2.2.2.1
  have w18 : (pD1 T t).1.2 = 0 → (pD1 T t).2 1 ≤ 8 := fun z => by
    rw [pD1_e] at z ⊢
    exact (pDl_pw (T := T) (t := t) 9 (pR2 T t) (fun z => by rw [pR2_2]; exact ⟨(pR1_pw (pR2_ok z).1).1, (pR2_ok z).2.1⟩) z).1.2.2.2.2.1
  obtain ⟨I5, k1, k2, k3⟩ := c_whole (D := D4) (K := K4) (n := n4) (Z := Z) (r := (pD1 T t).2) ht g2 (fun z => ⟨(g3 z).1.2.1, w08 z⟩)
  have k2 : Cs T t I5 (pD2 T t) := by unfold pD2; exact k2
  refine ⟨va_up I5 2 (upd (I5 2) 2 (0 : Int32)), D4, K4, n4, ?_, ?_, ?_, ?_, ?_, g4, ?_, ?_, g7, k2.2.2.2.2.1, k2.2.2.2.2.2⟩
  · simp only [f_X7_read, p2_3, p2_4, bA_s, va_up_self, bx_uu, e0, r2_1, c4, f_X3_clear, p4_3, p4_4, p4_8, e1, c2, a1, b1, g4_3]
    simp only [c2, bA_s] at d1
    rw [d1]
    simp only [bA_s, g1, r2_1, g4_4]
    rw [k1]
    simp only [bA_s, p2_2]
  · rw [va_up_self, pk_us]; rfl
  · rw [va_up_self, pk_un (by decide)]; exact k2.2.1
  · rw [va_up_self, pk_un (by decide)]; exact k2.2.2.1
  · intro z
    have y := (pD2_wf z).2
    refine (g3 y).cells (w18 y) (w08 y) ?_ ?_ ?_ (fun q hq => ?_)
    · rw [va_up_ne _ _ (by decide), k3 _ (by decide)]
    · rw [va_up_ne _ _ (by decide), k3 _ (by decide)]
    · rw [va_up_ne _ _ (by decide), k3 _ (by decide)]
    · rw [va_up_ne _ _ (by omega), k3 _ (by omega)]
  · have q1 : DK I K n I3 K n := DK.of (fun q hq => by rw [d3 q (by omega), b4 q (by omega) (by omega) (by omega), a3 q (by omega) (by omega), f1 q (by omega), f0 q (by omega)])
    exact (q1.trans g5).trans (DK.of (fun q hq => by rw [va_up_ne _ _ (by omega), k3 q (by omega)]))
  · intro x x0 x2 x4 x5 x6
    rw [va_up_ne _ _ x2, k3 x x2, g6 x x0 x2 x4 x6, d3 x x2, b4 x x2 x4 x5, a3 x x2 x4, f1 x x4, f0 x x2]
end ReadF
