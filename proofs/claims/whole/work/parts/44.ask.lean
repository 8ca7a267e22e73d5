/-! THE CALL ask -/
def MT (I : Nat → Nat → Int32) (l : List Nat) : Prop := I 162 31 = nI l.length ∧ ∀ i, i < l.length → I 176 i = nI (l.getD i 0)
def FrT (I I' : Nat → Nat → Int32) : Prop := (∀ x, x ≠ 162 → x ≠ 176 → I' x = I x) ∧ (∀ j, j ≠ 31 → I' 162 j = I 162 j)
def FrC (I I' : Nat → Nat → Int32) : Prop := ∀ x, x ≠ 26 → x ≠ 27 → I' x = I x
section Ask
variable {I I' : Nat → Nat → Int32} {D : Nat → Nat → Option Nat} {K : Nat → Nat} {n N : Nat} {Z : Nat → Cl} {r : Ro}
theorem FrT.trans {J : Nat → Nat → Int32} (h : FrT I I') (g : FrT I' J) : FrT I J := ⟨fun x a b => (g.1 x a b).trans (h.1 x a b), fun j a => (g.2 j a).trans (h.2 j a)⟩
theorem FrC.trans {J : Nat → Nat → Int32} (h : FrC I I') (g : FrC I' J) : FrC I J := fun x a b => (g x a b).trans (h x a b)
theorem m_began {l : List Nat} (h : MT I l) (hl : l.length < 16) (v : Nat) : ∃ I', f_X12_began (enc I D K n Z) 162 (nI v) = some (enc I' D K n Z) ∧ MT I' (l ++ [v]) ∧ FrT I I' := by
  have e : ¬ (16 : Int32) ≤ nI l.length := nI_ge (b := 16) hl (by decide)
  simp only [f_X12_began, g162_31, bA_s, h.1, if_neg e, r162_30, ast_n s_176 l.length _ hl (by decide), va_up_ne _ _ (show 162 ≠ 176 by decide), p162_31, z_i2]
  refine ⟨_, rfl, ⟨?_, fun i hi => ?_⟩, fun x a b => ?_, fun j a => ?_⟩
  · rw [va_up_self, pk_us, List.length_append]; rfl
  · rw [va_up_ne _ _ (by decide), va_up_self]
    rw [List.length_append] at hi
    simp only [List.length_cons, List.length_nil] at hi
    by_cases e : i = l.length
    · subst e; rw [pk_us, getD_app_eq]
    · rw [pk_un e, h.2 i (by omega), getD_app_lt (by omega)]
  · rw [va_up_ne _ _ a, va_up_ne _ _ b]
  · rw [va_up_self, pk_un a]
theorem nu26 : isNu 26 16 := by simp [isNu]
theorem c_tr {l : List Nat} (h : LG I 26 l) (hl : l.length < 16) (v : Nat) : ∃ I', f_X6_add (enc I D K n Z) 26 (nI v) = some (enc I' D K n Z) ∧ LG I' 26 (l ++ [v]) ∧ FrC I I' := LG_add nu26 h hl v

set_option maxRecDepth 100000 in
set_option maxHeartbeats 4000000 in
theorem c_size1 {I0 : Nat → Nat → Int32} {q k : Nat} (hq : DR I0 K n q k r) (hK : K q = 3) (hl : LG I0 26 []) : ∃ I', v_X2_size (K q) (enc I0 D K n Z) q (nI (r (18 + 5 * k))) 26 = some (nI (r (17 + 5 * k)) + (nI k + nI (r (18 + 5 * k))), enc I' D K n Z) ∧ LG I' 26 [11, 10, 21, 20] ∧ FrC I0 I' := by
  have hq177 := hq.1.1
  have hg : ∀ J : Nat → Nat → Int32, gC (enc J D K n Z) q = some (K q) := fun J => gC_e hq.1
  obtain ⟨I1, a1, t1, z1⟩ := c_tr (D := D) (K := K) (n := n) (Z := Z) hl (by decide) 11
  have a1 : f_X6_add (enc I0 D K n Z) 26 (11 : Int32) = some (enc I1 D K n Z) := a1
  obtain ⟨I2, a2, t2, z2⟩ := c_tr (D := D) (K := K) (n := n) (Z := Z) t1 (by decide) 10
  have a2 : f_X6_add (enc I1 D K n Z) 26 (10 : Int32) = some (enc I2 D K n Z) := a2
  obtain ⟨I3, a3, t3, z3⟩ := c_tr (D := D) (K := K) (n := n) (Z := Z) t2 (by decide) 21
  have a3 : f_X6_add (enc I2 D K n Z) 26 (21 : Int32) = some (enc I3 D K n Z) := a3
  obtain ⟨I4, a4, t4, z4⟩ := c_tr (D := D) (K := K) (n := n) (Z := Z) t3 (by decide) 20
  have a4 : f_X6_add (enc I3 D K n Z) 26 (20 : Int32) = some (enc I4 D K n Z) := a4
  have y1 : I1 q = I0 q := z1 q (by omega) (by omega)
  have y2 : I2 q = I0 q := (z1.trans z2) q (by omega) (by omega)
  have y3 : I3 q = I0 q := ((z1.trans z2).trans z3) q (by omega) (by omega)
  have y4 : I4 q = I0 q := (((z1.trans z2).trans z3).trans z4) q (by omega) (by omega)
  refine ⟨I4, ?_, t4, (((z1.trans z2).trans z3).trans z4)⟩
  simp only [v_X2_size, v_X4_mark, v_X5_size, hg, hK, Nat.reduceEqDiff, if_false, if_true, f_X0_size, f_X0_mark, f_X1_mark, f_X4_size, f_X4_mark, f_X5_size, f_X5_mark, f_X9_size, f_X2_size, f_X2_mark, c26, bA_s, b2_s, a1, a2, a3, a4, gD_e hq.1 3 (by decide), gD_e hq.1 0 (by decide), y1, y2, y3, y4, hq.2.2.1, hq.2.2.2.2.2]
set_option maxRecDepth 100000 in
set_option maxHeartbeats 4000000 in
theorem m_size1 {I0 : Nat → Nat → Int32} {k : Nat} (hk : k < 8) (hM : MH (I0 166) r) (hkd : r (14 + 5 * k) = 1) (hl : MT I0 []) : ∃ I', f_X12_sizeOf (enc I0 D K n Z) 162 (nI k) = some (nI (r (17 + 5 * k)) + (nI k + nI (r (18 + 5 * k))), enc I' D K n Z) ∧ MT I' [11, 10, 21, 20] ∧ FrT I0 I' := by
  have M0 := hM
  obtain ⟨I1, a1, t1, z1⟩ := m_began (D := D) (K := K) (n := n) (Z := Z) hl (by decide) 11
  have a1 : f_X12_began (enc I0 D K n Z) 162 (11 : Int32) = some (enc I1 D K n Z) := a1
  have M1 : MH (I1 166) r := by rw [z1.1 166 (by decide) (by decide)]; exact M0
  obtain ⟨I2, a2, t2, z2⟩ := m_began (D := D) (K := K) (n := n) (Z := Z) t1 (by decide) 10
  have a2 : f_X12_began (enc I1 D K n Z) 162 (10 : Int32) = some (enc I2 D K n Z) := a2
  have M2 : MH (I2 166) r := by rw [z2.1 166 (by decide) (by decide)]; exact M1
  obtain ⟨I3, a3, t3, z3⟩ := m_began (D := D) (K := K) (n := n) (Z := Z) t2 (by decide) 21
  have a3 : f_X12_began (enc I2 D K n Z) 162 (21 : Int32) = some (enc I3 D K n Z) := a3
  have M3 : MH (I3 166) r := by rw [z3.1 166 (by decide) (by decide)]; exact M2
  obtain ⟨I4, a4, t4, z4⟩ := m_began (D := D) (K := K) (n := n) (Z := Z) t3 (by decide) 20
  have a4 : f_X12_began (enc I3 D K n Z) 162 (20 : Int32) = some (enc I4 D K n Z) := a4
  have M4 : MH (I4 166) r := by rw [z4.1 166 (by decide) (by decide)]; exact M3
  refine ⟨I4, ?_, t4, (((z1.trans z2).trans z3).trans z4)⟩
  simp only [f_X12_sizeOf, f_X12_markOf, f_X12_lockSize, f_X12_plainSize, r162_5, c162, bA_s, b2_s, m_of0 R166 M0 hk, m_of3 R166 M0 hk, m_of4 R166 M0 hk, m_of0 R166 M1 hk, m_of3 R166 M1 hk, m_of4 R166 M1 hk, m_of0 R166 M2 hk, m_of3 R166 M2 hk, m_of4 R166 M2 hk, m_of0 R166 M3 hk, m_of3 R166 M3 hk, m_of4 R166 M3 hk, m_of0 R166 M4 hk, m_of3 R166 M4 hk, m_of4 R166 M4 hk, hkd, if_pos (show nI 1 = (1 : Int32) by decide), if_neg (show ¬ nI 1 = (2 : Int32) by decide), if_neg (show ¬ nI 1 = (3 : Int32) by decide), if_neg (show ¬ nI 1 = (5 : Int32) by decide), if_pos (show nI 1 < (4 : Int32) by decide), if_neg one0, if_true, a1, a2, a3, a4]
set_option maxRecDepth 100000 in
set_option maxHeartbeats 4000000 in
theorem c_size2 {I0 : Nat → Nat → Int32} {q k : Nat} (hq : DR I0 K n q k r) (hK : K q = 0) (hl : LG I0 26 []) : ∃ I', v_X2_size (K q) (enc I0 D K n Z) q (nI (r (18 + 5 * k))) 26 = some (-(nI (r (17 + 5 * k)) + ((2 : Int32) * (nI k + nI (r (18 + 5 * k))))), enc I' D K n Z) ∧ LG I' 26 [12, 11, 10, 24, 21, 20] ∧ FrC I0 I' := by
  have hq177 := hq.1.1
  have hg : ∀ J : Nat → Nat → Int32, gC (enc J D K n Z) q = some (K q) := fun J => gC_e hq.1
  obtain ⟨I1, a1, t1, z1⟩ := c_tr (D := D) (K := K) (n := n) (Z := Z) hl (by decide) 12
  have a1 : f_X6_add (enc I0 D K n Z) 26 (12 : Int32) = some (enc I1 D K n Z) := a1
  obtain ⟨I2, a2, t2, z2⟩ := c_tr (D := D) (K := K) (n := n) (Z := Z) t1 (by decide) 11
  have a2 : f_X6_add (enc I1 D K n Z) 26 (11 : Int32) = some (enc I2 D K n Z) := a2
  obtain ⟨I3, a3, t3, z3⟩ := c_tr (D := D) (K := K) (n := n) (Z := Z) t2 (by decide) 10
  have a3 : f_X6_add (enc I2 D K n Z) 26 (10 : Int32) = some (enc I3 D K n Z) := a3
  obtain ⟨I4, a4, t4, z4⟩ := c_tr (D := D) (K := K) (n := n) (Z := Z) t3 (by decide) 24
  have a4 : f_X6_add (enc I3 D K n Z) 26 (24 : Int32) = some (enc I4 D K n Z) := a4
  obtain ⟨I5, a5, t5, z5⟩ := c_tr (D := D) (K := K) (n := n) (Z := Z) t4 (by decide) 21
  have a5 : f_X6_add (enc I4 D K n Z) 26 (21 : Int32) = some (enc I5 D K n Z) := a5
  obtain ⟨I6, a6, t6, z6⟩ := c_tr (D := D) (K := K) (n := n) (Z := Z) t5 (by decide) 20
  have a6 : f_X6_add (enc I5 D K n Z) 26 (20 : Int32) = some (enc I6 D K n Z) := a6
  have y1 : I1 q = I0 q := z1 q (by omega) (by omega)
  have y2 : I2 q = I0 q := (z1.trans z2) q (by omega) (by omega)
  have y3 : I3 q = I0 q := ((z1.trans z2).trans z3) q (by omega) (by omega)
  have y4 : I4 q = I0 q := (((z1.trans z2).trans z3).trans z4) q (by omega) (by omega)
  have y5 : I5 q = I0 q := ((((z1.trans z2).trans z3).trans z4).trans z5) q (by omega) (by omega)
  have y6 : I6 q = I0 q := (((((z1.trans z2).trans z3).trans z4).trans z5).trans z6) q (by omega) (by omega)
  refine ⟨I6, ?_, t6, (((((z1.trans z2).trans z3).trans z4).trans z5).trans z6)⟩
  simp only [v_X2_size, v_X4_mark, v_X5_size, hg, hK, Nat.reduceEqDiff, if_false, if_true, f_X0_size, f_X0_mark, f_X1_mark, f_X4_size, f_X4_mark, f_X5_size, f_X5_mark, f_X9_size, f_X2_size, f_X2_mark, c26, bA_s, b2_s, a1, a2, a3, a4, a5, a6, gD_e hq.1 3 (by decide), gD_e hq.1 0 (by decide), y1, y2, y3, y4, y5, y6, hq.2.2.1, hq.2.2.2.2.2]
set_option maxRecDepth 100000 in
set_option maxHeartbeats 4000000 in
theorem m_size2 {I0 : Nat → Nat → Int32} {k : Nat} (hk : k < 8) (hM : MH (I0 166) r) (hkd : r (14 + 5 * k) = 2) (hl : MT I0 []) : ∃ I', f_X12_sizeOf (enc I0 D K n Z) 162 (nI k) = some (-(nI (r (17 + 5 * k)) + ((2 : Int32) * (nI k + nI (r (18 + 5 * k))))), enc I' D K n Z) ∧ MT I' [12, 11, 10, 24, 21, 20] ∧ FrT I0 I' := by
  have M0 := hM
  obtain ⟨I1, a1, t1, z1⟩ := m_began (D := D) (K := K) (n := n) (Z := Z) hl (by decide) 12
  have a1 : f_X12_began (enc I0 D K n Z) 162 (12 : Int32) = some (enc I1 D K n Z) := a1
  have M1 : MH (I1 166) r := by rw [z1.1 166 (by decide) (by decide)]; exact M0
  obtain ⟨I2, a2, t2, z2⟩ := m_began (D := D) (K := K) (n := n) (Z := Z) t1 (by decide) 11
  have a2 : f_X12_began (enc I1 D K n Z) 162 (11 : Int32) = some (enc I2 D K n Z) := a2
  have M2 : MH (I2 166) r := by rw [z2.1 166 (by decide) (by decide)]; exact M1
  obtain ⟨I3, a3, t3, z3⟩ := m_began (D := D) (K := K) (n := n) (Z := Z) t2 (by decide) 10
  have a3 : f_X12_began (enc I2 D K n Z) 162 (10 : Int32) = some (enc I3 D K n Z) := a3
  have M3 : MH (I3 166) r := by rw [z3.1 166 (by decide) (by decide)]; exact M2
  obtain ⟨I4, a4, t4, z4⟩ := m_began (D := D) (K := K) (n := n) (Z := Z) t3 (by decide) 24
  have a4 : f_X12_began (enc I3 D K n Z) 162 (24 : Int32) = some (enc I4 D K n Z) := a4
  have M4 : MH (I4 166) r := by rw [z4.1 166 (by decide) (by decide)]; exact M3
  obtain ⟨I5, a5, t5, z5⟩ := m_began (D := D) (K := K) (n := n) (Z := Z) t4 (by decide) 21
  have a5 : f_X12_began (enc I4 D K n Z) 162 (21 : Int32) = some (enc I5 D K n Z) := a5
  have M5 : MH (I5 166) r := by rw [z5.1 166 (by decide) (by decide)]; exact M4
  obtain ⟨I6, a6, t6, z6⟩ := m_began (D := D) (K := K) (n := n) (Z := Z) t5 (by decide) 20
  have a6 : f_X12_began (enc I5 D K n Z) 162 (20 : Int32) = some (enc I6 D K n Z) := a6
  have M6 : MH (I6 166) r := by rw [z6.1 166 (by decide) (by decide)]; exact M5
  refine ⟨I6, ?_, t6, (((((z1.trans z2).trans z3).trans z4).trans z5).trans z6)⟩
  simp only [f_X12_sizeOf, f_X12_markOf, f_X12_lockSize, f_X12_plainSize, r162_5, c162, bA_s, b2_s, m_of0 R166 M0 hk, m_of3 R166 M0 hk, m_of4 R166 M0 hk, m_of0 R166 M1 hk, m_of3 R166 M1 hk, m_of4 R166 M1 hk, m_of0 R166 M2 hk, m_of3 R166 M2 hk, m_of4 R166 M2 hk, m_of0 R166 M3 hk, m_of3 R166 M3 hk, m_of4 R166 M3 hk, m_of0 R166 M4 hk, m_of3 R166 M4 hk, m_of4 R166 M4 hk, m_of0 R166 M5 hk, m_of3 R166 M5 hk, m_of4 R166 M5 hk, m_of0 R166 M6 hk, m_of3 R166 M6 hk, m_of4 R166 M6 hk, hkd, if_neg (show ¬ nI 2 = (1 : Int32) by decide), if_pos (show nI 2 = (2 : Int32) by decide), if_neg (show ¬ nI 2 = (3 : Int32) by decide), if_neg (show ¬ nI 2 = (5 : Int32) by decide), if_pos (show nI 2 < (4 : Int32) by decide), if_neg one0, if_true, a1, a2, a3, a4, a5, a6]
set_option maxRecDepth 100000 in
set_option maxHeartbeats 4000000 in
theorem c_size3 {I0 : Nat → Nat → Int32} {q k : Nat} (hq : DR I0 K n q k r) (hK : K q = 1) (hl : LG I0 26 []) : ∃ I', v_X2_size (K q) (enc I0 D K n Z) q (nI (r (18 + 5 * k))) 26 = some (nI (r (17 + 5 * k)) + ((nI k + nI (r (18 + 5 * k))) - (1000 : Int32)), enc I' D K n Z) ∧ LG I' 26 [11, 10, 22, 21, 20] ∧ FrC I0 I' := by
  have hq177 := hq.1.1
  have hg : ∀ J : Nat → Nat → Int32, gC (enc J D K n Z) q = some (K q) := fun J => gC_e hq.1
  obtain ⟨I1, a1, t1, z1⟩ := c_tr (D := D) (K := K) (n := n) (Z := Z) hl (by decide) 11
  have a1 : f_X6_add (enc I0 D K n Z) 26 (11 : Int32) = some (enc I1 D K n Z) := a1
  obtain ⟨I2, a2, t2, z2⟩ := c_tr (D := D) (K := K) (n := n) (Z := Z) t1 (by decide) 10
  have a2 : f_X6_add (enc I1 D K n Z) 26 (10 : Int32) = some (enc I2 D K n Z) := a2
  obtain ⟨I3, a3, t3, z3⟩ := c_tr (D := D) (K := K) (n := n) (Z := Z) t2 (by decide) 22
  have a3 : f_X6_add (enc I2 D K n Z) 26 (22 : Int32) = some (enc I3 D K n Z) := a3
  obtain ⟨I4, a4, t4, z4⟩ := c_tr (D := D) (K := K) (n := n) (Z := Z) t3 (by decide) 21
  have a4 : f_X6_add (enc I3 D K n Z) 26 (21 : Int32) = some (enc I4 D K n Z) := a4
  obtain ⟨I5, a5, t5, z5⟩ := c_tr (D := D) (K := K) (n := n) (Z := Z) t4 (by decide) 20
  have a5 : f_X6_add (enc I4 D K n Z) 26 (20 : Int32) = some (enc I5 D K n Z) := a5
  have y1 : I1 q = I0 q := z1 q (by omega) (by omega)
  have y2 : I2 q = I0 q := (z1.trans z2) q (by omega) (by omega)
  have y3 : I3 q = I0 q := ((z1.trans z2).trans z3) q (by omega) (by omega)
  have y4 : I4 q = I0 q := (((z1.trans z2).trans z3).trans z4) q (by omega) (by omega)
  have y5 : I5 q = I0 q := ((((z1.trans z2).trans z3).trans z4).trans z5) q (by omega) (by omega)
  refine ⟨I5, ?_, t5, ((((z1.trans z2).trans z3).trans z4).trans z5)⟩
  simp only [v_X2_size, v_X4_mark, v_X5_size, hg, hK, Nat.reduceEqDiff, if_false, if_true, f_X0_size, f_X0_mark, f_X1_mark, f_X4_size, f_X4_mark, f_X5_size, f_X5_mark, f_X9_size, f_X2_size, f_X2_mark, c26, bA_s, b2_s, a1, a2, a3, a4, a5, gD_e hq.1 3 (by decide), gD_e hq.1 0 (by decide), y1, y2, y3, y4, y5, hq.2.2.1, hq.2.2.2.2.2]
set_option maxRecDepth 100000 in
set_option maxHeartbeats 4000000 in
theorem m_size3 {I0 : Nat → Nat → Int32} {k : Nat} (hk : k < 8) (hM : MH (I0 166) r) (hkd : r (14 + 5 * k) = 3) (hl : MT I0 []) : ∃ I', f_X12_sizeOf (enc I0 D K n Z) 162 (nI k) = some (nI (r (17 + 5 * k)) + ((nI k + nI (r (18 + 5 * k))) - (1000 : Int32)), enc I' D K n Z) ∧ MT I' [11, 10, 22, 21, 20] ∧ FrT I0 I' := by
  have M0 := hM
  obtain ⟨I1, a1, t1, z1⟩ := m_began (D := D) (K := K) (n := n) (Z := Z) hl (by decide) 11
  have a1 : f_X12_began (enc I0 D K n Z) 162 (11 : Int32) = some (enc I1 D K n Z) := a1
  have M1 : MH (I1 166) r := by rw [z1.1 166 (by decide) (by decide)]; exact M0
  obtain ⟨I2, a2, t2, z2⟩ := m_began (D := D) (K := K) (n := n) (Z := Z) t1 (by decide) 10
  have a2 : f_X12_began (enc I1 D K n Z) 162 (10 : Int32) = some (enc I2 D K n Z) := a2
  have M2 : MH (I2 166) r := by rw [z2.1 166 (by decide) (by decide)]; exact M1
  obtain ⟨I3, a3, t3, z3⟩ := m_began (D := D) (K := K) (n := n) (Z := Z) t2 (by decide) 22
  have a3 : f_X12_began (enc I2 D K n Z) 162 (22 : Int32) = some (enc I3 D K n Z) := a3
  have M3 : MH (I3 166) r := by rw [z3.1 166 (by decide) (by decide)]; exact M2
  obtain ⟨I4, a4, t4, z4⟩ := m_began (D := D) (K := K) (n := n) (Z := Z) t3 (by decide) 21
  have a4 : f_X12_began (enc I3 D K n Z) 162 (21 : Int32) = some (enc I4 D K n Z) := a4
  have M4 : MH (I4 166) r := by rw [z4.1 166 (by decide) (by decide)]; exact M3
  obtain ⟨I5, a5, t5, z5⟩ := m_began (D := D) (K := K) (n := n) (Z := Z) t4 (by decide) 20
  have a5 : f_X12_began (enc I4 D K n Z) 162 (20 : Int32) = some (enc I5 D K n Z) := a5
  have M5 : MH (I5 166) r := by rw [z5.1 166 (by decide) (by decide)]; exact M4
  refine ⟨I5, ?_, t5, ((((z1.trans z2).trans z3).trans z4).trans z5)⟩
  simp only [f_X12_sizeOf, f_X12_markOf, f_X12_lockSize, f_X12_plainSize, r162_5, c162, bA_s, b2_s, m_of0 R166 M0 hk, m_of3 R166 M0 hk, m_of4 R166 M0 hk, m_of0 R166 M1 hk, m_of3 R166 M1 hk, m_of4 R166 M1 hk, m_of0 R166 M2 hk, m_of3 R166 M2 hk, m_of4 R166 M2 hk, m_of0 R166 M3 hk, m_of3 R166 M3 hk, m_of4 R166 M3 hk, m_of0 R166 M4 hk, m_of3 R166 M4 hk, m_of4 R166 M4 hk, m_of0 R166 M5 hk, m_of3 R166 M5 hk, m_of4 R166 M5 hk, hkd, if_neg (show ¬ nI 3 = (1 : Int32) by decide), if_neg (show ¬ nI 3 = (2 : Int32) by decide), if_pos (show nI 3 = (3 : Int32) by decide), if_neg (show ¬ nI 3 = (5 : Int32) by decide), if_pos (show nI 3 < (4 : Int32) by decide), if_neg one0, if_true, a1, a2, a3, a4, a5]
set_option maxRecDepth 100000 in
set_option maxHeartbeats 4000000 in
theorem c_size4 {I0 : Nat → Nat → Int32} {q k : Nat} (hq : DR I0 K n q k r) (hK : K q = 4) (hl : LG I0 26 []) : ∃ I', v_X2_size (K q) (enc I0 D K n Z) q (nI (r (18 + 5 * k))) 26 = some (nI (r (17 + 5 * k)) - (100 : Int32), enc I' D K n Z) ∧ LG I' 26 [13, 10] ∧ FrC I0 I' := by
  have hq177 := hq.1.1
  have hg : ∀ J : Nat → Nat → Int32, gC (enc J D K n Z) q = some (K q) := fun J => gC_e hq.1
  obtain ⟨I1, a1, t1, z1⟩ := c_tr (D := D) (K := K) (n := n) (Z := Z) hl (by decide) 13
  have a1 : f_X6_add (enc I0 D K n Z) 26 (13 : Int32) = some (enc I1 D K n Z) := a1
  obtain ⟨I2, a2, t2, z2⟩ := c_tr (D := D) (K := K) (n := n) (Z := Z) t1 (by decide) 10
  have a2 : f_X6_add (enc I1 D K n Z) 26 (10 : Int32) = some (enc I2 D K n Z) := a2
  have y1 : I1 q = I0 q := z1 q (by omega) (by omega)
  have y2 : I2 q = I0 q := (z1.trans z2) q (by omega) (by omega)
  refine ⟨I2, ?_, t2, (z1.trans z2)⟩
  simp only [v_X2_size, v_X4_mark, v_X5_size, hg, hK, Nat.reduceEqDiff, if_false, if_true, f_X0_size, f_X0_mark, f_X1_mark, f_X4_size, f_X4_mark, f_X5_size, f_X5_mark, f_X9_size, f_X2_size, f_X2_mark, c26, bA_s, b2_s, a1, a2, gD_e hq.1 3 (by decide), gD_e hq.1 0 (by decide), y1, y2, hq.2.2.1, hq.2.2.2.2.2]
set_option maxRecDepth 100000 in
set_option maxHeartbeats 4000000 in
theorem m_size4 {I0 : Nat → Nat → Int32} {k : Nat} (hk : k < 8) (hM : MH (I0 166) r) (hkd : r (14 + 5 * k) = 4) (hl : MT I0 []) : ∃ I', f_X12_sizeOf (enc I0 D K n Z) 162 (nI k) = some (nI (r (17 + 5 * k)) - (100 : Int32), enc I' D K n Z) ∧ MT I' [13, 10] ∧ FrT I0 I' := by
  have M0 := hM
  obtain ⟨I1, a1, t1, z1⟩ := m_began (D := D) (K := K) (n := n) (Z := Z) hl (by decide) 13
  have a1 : f_X12_began (enc I0 D K n Z) 162 (13 : Int32) = some (enc I1 D K n Z) := a1
  have M1 : MH (I1 166) r := by rw [z1.1 166 (by decide) (by decide)]; exact M0
  obtain ⟨I2, a2, t2, z2⟩ := m_began (D := D) (K := K) (n := n) (Z := Z) t1 (by decide) 10
  have a2 : f_X12_began (enc I1 D K n Z) 162 (10 : Int32) = some (enc I2 D K n Z) := a2
  have M2 : MH (I2 166) r := by rw [z2.1 166 (by decide) (by decide)]; exact M1
  refine ⟨I2, ?_, t2, (z1.trans z2)⟩
  simp only [f_X12_sizeOf, f_X12_markOf, f_X12_lockSize, f_X12_plainSize, r162_5, c162, bA_s, b2_s, m_of0 R166 M0 hk, m_of3 R166 M0 hk, m_of4 R166 M0 hk, m_of0 R166 M1 hk, m_of3 R166 M1 hk, m_of4 R166 M1 hk, m_of0 R166 M2 hk, m_of3 R166 M2 hk, m_of4 R166 M2 hk, hkd, if_neg (show ¬ nI 4 = (1 : Int32) by decide), if_neg (show ¬ nI 4 = (2 : Int32) by decide), if_neg (show ¬ nI 4 = (3 : Int32) by decide), if_neg (show ¬ nI 4 = (5 : Int32) by decide), if_neg (show ¬ nI 4 < (4 : Int32) by decide), if_neg one0, if_true, a1, a2]
set_option maxRecDepth 100000 in
set_option maxHeartbeats 4000000 in
theorem c_size5 {I0 : Nat → Nat → Int32} {q k : Nat} (hq : DR I0 K n q k r) (hK : K q = 8) (hl : LG I0 26 []) : ∃ I', v_X2_size (K q) (enc I0 D K n Z) q (nI (r (18 + 5 * k))) 26 = some ((2 : Int32) * (nI (r (17 + 5 * k)) - (100 : Int32)), enc I' D K n Z) ∧ LG I' 26 [14, 13, 10] ∧ FrC I0 I' := by
  have hq177 := hq.1.1
  have hg : ∀ J : Nat → Nat → Int32, gC (enc J D K n Z) q = some (K q) := fun J => gC_e hq.1
  obtain ⟨I1, a1, t1, z1⟩ := c_tr (D := D) (K := K) (n := n) (Z := Z) hl (by decide) 14
  have a1 : f_X6_add (enc I0 D K n Z) 26 (14 : Int32) = some (enc I1 D K n Z) := a1
  obtain ⟨I2, a2, t2, z2⟩ := c_tr (D := D) (K := K) (n := n) (Z := Z) t1 (by decide) 13
  have a2 : f_X6_add (enc I1 D K n Z) 26 (13 : Int32) = some (enc I2 D K n Z) := a2
  obtain ⟨I3, a3, t3, z3⟩ := c_tr (D := D) (K := K) (n := n) (Z := Z) t2 (by decide) 10
  have a3 : f_X6_add (enc I2 D K n Z) 26 (10 : Int32) = some (enc I3 D K n Z) := a3
  have y1 : I1 q = I0 q := z1 q (by omega) (by omega)
  have y2 : I2 q = I0 q := (z1.trans z2) q (by omega) (by omega)
  have y3 : I3 q = I0 q := ((z1.trans z2).trans z3) q (by omega) (by omega)
  refine ⟨I3, ?_, t3, ((z1.trans z2).trans z3)⟩
  simp only [v_X2_size, v_X4_mark, v_X5_size, hg, hK, Nat.reduceEqDiff, if_false, if_true, f_X0_size, f_X0_mark, f_X1_mark, f_X4_size, f_X4_mark, f_X5_size, f_X5_mark, f_X9_size, f_X2_size, f_X2_mark, c26, bA_s, b2_s, a1, a2, a3, gD_e hq.1 3 (by decide), gD_e hq.1 0 (by decide), y1, y2, y3, hq.2.2.1, hq.2.2.2.2.2]
set_option maxRecDepth 100000 in
set_option maxHeartbeats 4000000 in
theorem m_size5 {I0 : Nat → Nat → Int32} {k : Nat} (hk : k < 8) (hM : MH (I0 166) r) (hkd : r (14 + 5 * k) = 5) (hl : MT I0 []) : ∃ I', f_X12_sizeOf (enc I0 D K n Z) 162 (nI k) = some ((2 : Int32) * (nI (r (17 + 5 * k)) - (100 : Int32)), enc I' D K n Z) ∧ MT I' [14, 13, 10] ∧ FrT I0 I' := by
  have M0 := hM
  obtain ⟨I1, a1, t1, z1⟩ := m_began (D := D) (K := K) (n := n) (Z := Z) hl (by decide) 14
  have a1 : f_X12_began (enc I0 D K n Z) 162 (14 : Int32) = some (enc I1 D K n Z) := a1
  have M1 : MH (I1 166) r := by rw [z1.1 166 (by decide) (by decide)]; exact M0
  obtain ⟨I2, a2, t2, z2⟩ := m_began (D := D) (K := K) (n := n) (Z := Z) t1 (by decide) 13
  have a2 : f_X12_began (enc I1 D K n Z) 162 (13 : Int32) = some (enc I2 D K n Z) := a2
  have M2 : MH (I2 166) r := by rw [z2.1 166 (by decide) (by decide)]; exact M1
  obtain ⟨I3, a3, t3, z3⟩ := m_began (D := D) (K := K) (n := n) (Z := Z) t2 (by decide) 10
  have a3 : f_X12_began (enc I2 D K n Z) 162 (10 : Int32) = some (enc I3 D K n Z) := a3
  have M3 : MH (I3 166) r := by rw [z3.1 166 (by decide) (by decide)]; exact M2
  refine ⟨I3, ?_, t3, ((z1.trans z2).trans z3)⟩
  simp only [f_X12_sizeOf, f_X12_markOf, f_X12_lockSize, f_X12_plainSize, r162_5, c162, bA_s, b2_s, m_of0 R166 M0 hk, m_of3 R166 M0 hk, m_of4 R166 M0 hk, m_of0 R166 M1 hk, m_of3 R166 M1 hk, m_of4 R166 M1 hk, m_of0 R166 M2 hk, m_of3 R166 M2 hk, m_of4 R166 M2 hk, m_of0 R166 M3 hk, m_of3 R166 M3 hk, m_of4 R166 M3 hk, hkd, if_neg (show ¬ nI 5 = (1 : Int32) by decide), if_neg (show ¬ nI 5 = (2 : Int32) by decide), if_neg (show ¬ nI 5 = (3 : Int32) by decide), if_pos (show nI 5 = (5 : Int32) by decide), if_neg (show ¬ nI 5 < (4 : Int32) by decide), if_neg one0, if_true, a1, a2, a3]
set_option maxRecDepth 100000 in
set_option maxHeartbeats 4000000 in
theorem c_mark1 {I0 : Nat → Nat → Int32} {q k : Nat} (hq : DR I0 K n q k r) (hK : K q = 3) (hl : LG I0 26 []) : ∃ I', v_X2_mark (K q) (enc I0 D K n Z) q (nI (r (18 + 5 * k))) 26 = some (nI k + nI (r (18 + 5 * k)), enc I' D K n Z) ∧ LG I' 26 [21, 20] ∧ FrC I0 I' := by
  have hq177 := hq.1.1
  have hg : ∀ J : Nat → Nat → Int32, gC (enc J D K n Z) q = some (K q) := fun J => gC_e hq.1
  obtain ⟨I1, a1, t1, z1⟩ := c_tr (D := D) (K := K) (n := n) (Z := Z) hl (by decide) 21
  have a1 : f_X6_add (enc I0 D K n Z) 26 (21 : Int32) = some (enc I1 D K n Z) := a1
  obtain ⟨I2, a2, t2, z2⟩ := c_tr (D := D) (K := K) (n := n) (Z := Z) t1 (by decide) 20
  have a2 : f_X6_add (enc I1 D K n Z) 26 (20 : Int32) = some (enc I2 D K n Z) := a2
  have y1 : I1 q = I0 q := z1 q (by omega) (by omega)
  have y2 : I2 q = I0 q := (z1.trans z2) q (by omega) (by omega)
  refine ⟨I2, ?_, t2, (z1.trans z2)⟩
  simp only [v_X2_mark, v_X4_mark, v_X5_size, hg, hK, Nat.reduceEqDiff, if_false, if_true, f_X0_size, f_X0_mark, f_X1_mark, f_X4_size, f_X4_mark, f_X5_size, f_X5_mark, f_X9_size, f_X2_size, f_X2_mark, c26, bA_s, b2_s, a1, a2, gD_e hq.1 3 (by decide), gD_e hq.1 0 (by decide), y1, y2, hq.2.2.1, hq.2.2.2.2.2]
set_option maxRecDepth 100000 in
set_option maxHeartbeats 4000000 in
theorem m_mark1 {I0 : Nat → Nat → Int32} {k : Nat} (hk : k < 8) (hM : MH (I0 166) r) (hkd : r (14 + 5 * k) = 1) (hl : MT I0 []) : ∃ I', f_X12_markOf (enc I0 D K n Z) 162 (nI k) = some (nI k + nI (r (18 + 5 * k)), enc I' D K n Z) ∧ MT I' [21, 20] ∧ FrT I0 I' := by
  have M0 := hM
  obtain ⟨I1, a1, t1, z1⟩ := m_began (D := D) (K := K) (n := n) (Z := Z) hl (by decide) 21
  have a1 : f_X12_began (enc I0 D K n Z) 162 (21 : Int32) = some (enc I1 D K n Z) := a1
  have M1 : MH (I1 166) r := by rw [z1.1 166 (by decide) (by decide)]; exact M0
  obtain ⟨I2, a2, t2, z2⟩ := m_began (D := D) (K := K) (n := n) (Z := Z) t1 (by decide) 20
  have a2 : f_X12_began (enc I1 D K n Z) 162 (20 : Int32) = some (enc I2 D K n Z) := a2
  have M2 : MH (I2 166) r := by rw [z2.1 166 (by decide) (by decide)]; exact M1
  refine ⟨I2, ?_, t2, (z1.trans z2)⟩
  simp only [f_X12_sizeOf, f_X12_markOf, f_X12_lockSize, f_X12_plainSize, r162_5, c162, bA_s, b2_s, m_of0 R166 M0 hk, m_of3 R166 M0 hk, m_of4 R166 M0 hk, m_of0 R166 M1 hk, m_of3 R166 M1 hk, m_of4 R166 M1 hk, m_of0 R166 M2 hk, m_of3 R166 M2 hk, m_of4 R166 M2 hk, hkd, if_pos (show nI 1 = (1 : Int32) by decide), if_neg (show ¬ nI 1 = (2 : Int32) by decide), if_neg (show ¬ nI 1 = (3 : Int32) by decide), if_neg (show ¬ nI 1 = (5 : Int32) by decide), if_pos (show nI 1 < (4 : Int32) by decide), if_neg one0, if_true, a1, a2]
set_option maxRecDepth 100000 in
set_option maxHeartbeats 4000000 in
theorem c_mark2 {I0 : Nat → Nat → Int32} {q k : Nat} (hq : DR I0 K n q k r) (hK : K q = 0) (hl : LG I0 26 []) : ∃ I', v_X2_mark (K q) (enc I0 D K n Z) q (nI (r (18 + 5 * k))) 26 = some ((2 : Int32) * (nI k + nI (r (18 + 5 * k))), enc I' D K n Z) ∧ LG I' 26 [24, 21, 20] ∧ FrC I0 I' := by
  have hq177 := hq.1.1
  have hg : ∀ J : Nat → Nat → Int32, gC (enc J D K n Z) q = some (K q) := fun J => gC_e hq.1
  obtain ⟨I1, a1, t1, z1⟩ := c_tr (D := D) (K := K) (n := n) (Z := Z) hl (by decide) 24
  have a1 : f_X6_add (enc I0 D K n Z) 26 (24 : Int32) = some (enc I1 D K n Z) := a1
  obtain ⟨I2, a2, t2, z2⟩ := c_tr (D := D) (K := K) (n := n) (Z := Z) t1 (by decide) 21
  have a2 : f_X6_add (enc I1 D K n Z) 26 (21 : Int32) = some (enc I2 D K n Z) := a2
  obtain ⟨I3, a3, t3, z3⟩ := c_tr (D := D) (K := K) (n := n) (Z := Z) t2 (by decide) 20
  have a3 : f_X6_add (enc I2 D K n Z) 26 (20 : Int32) = some (enc I3 D K n Z) := a3
  have y1 : I1 q = I0 q := z1 q (by omega) (by omega)
  have y2 : I2 q = I0 q := (z1.trans z2) q (by omega) (by omega)
  have y3 : I3 q = I0 q := ((z1.trans z2).trans z3) q (by omega) (by omega)
  refine ⟨I3, ?_, t3, ((z1.trans z2).trans z3)⟩
  simp only [v_X2_mark, v_X4_mark, v_X5_size, hg, hK, Nat.reduceEqDiff, if_false, if_true, f_X0_size, f_X0_mark, f_X1_mark, f_X4_size, f_X4_mark, f_X5_size, f_X5_mark, f_X9_size, f_X2_size, f_X2_mark, c26, bA_s, b2_s, a1, a2, a3, gD_e hq.1 3 (by decide), gD_e hq.1 0 (by decide), y1, y2, y3, hq.2.2.1, hq.2.2.2.2.2]
set_option maxRecDepth 100000 in
set_option maxHeartbeats 4000000 in
theorem m_mark2 {I0 : Nat → Nat → Int32} {k : Nat} (hk : k < 8) (hM : MH (I0 166) r) (hkd : r (14 + 5 * k) = 2) (hl : MT I0 []) : ∃ I', f_X12_markOf (enc I0 D K n Z) 162 (nI k) = some ((2 : Int32) * (nI k + nI (r (18 + 5 * k))), enc I' D K n Z) ∧ MT I' [24, 21, 20] ∧ FrT I0 I' := by
  have M0 := hM
  obtain ⟨I1, a1, t1, z1⟩ := m_began (D := D) (K := K) (n := n) (Z := Z) hl (by decide) 24
  have a1 : f_X12_began (enc I0 D K n Z) 162 (24 : Int32) = some (enc I1 D K n Z) := a1
  have M1 : MH (I1 166) r := by rw [z1.1 166 (by decide) (by decide)]; exact M0
  obtain ⟨I2, a2, t2, z2⟩ := m_began (D := D) (K := K) (n := n) (Z := Z) t1 (by decide) 21
  have a2 : f_X12_began (enc I1 D K n Z) 162 (21 : Int32) = some (enc I2 D K n Z) := a2
  have M2 : MH (I2 166) r := by rw [z2.1 166 (by decide) (by decide)]; exact M1
  obtain ⟨I3, a3, t3, z3⟩ := m_began (D := D) (K := K) (n := n) (Z := Z) t2 (by decide) 20
  have a3 : f_X12_began (enc I2 D K n Z) 162 (20 : Int32) = some (enc I3 D K n Z) := a3
  have M3 : MH (I3 166) r := by rw [z3.1 166 (by decide) (by decide)]; exact M2
  refine ⟨I3, ?_, t3, ((z1.trans z2).trans z3)⟩
  simp only [f_X12_sizeOf, f_X12_markOf, f_X12_lockSize, f_X12_plainSize, r162_5, c162, bA_s, b2_s, m_of0 R166 M0 hk, m_of3 R166 M0 hk, m_of4 R166 M0 hk, m_of0 R166 M1 hk, m_of3 R166 M1 hk, m_of4 R166 M1 hk, m_of0 R166 M2 hk, m_of3 R166 M2 hk, m_of4 R166 M2 hk, m_of0 R166 M3 hk, m_of3 R166 M3 hk, m_of4 R166 M3 hk, hkd, if_neg (show ¬ nI 2 = (1 : Int32) by decide), if_pos (show nI 2 = (2 : Int32) by decide), if_neg (show ¬ nI 2 = (3 : Int32) by decide), if_neg (show ¬ nI 2 = (5 : Int32) by decide), if_pos (show nI 2 < (4 : Int32) by decide), if_neg one0, if_true, a1, a2, a3]
set_option maxRecDepth 100000 in
set_option maxHeartbeats 4000000 in
theorem c_mark3 {I0 : Nat → Nat → Int32} {q k : Nat} (hq : DR I0 K n q k r) (hK : K q = 1) (hl : LG I0 26 []) : ∃ I', v_X2_mark (K q) (enc I0 D K n Z) q (nI (r (18 + 5 * k))) 26 = some ((nI k + nI (r (18 + 5 * k))) - (1000 : Int32), enc I' D K n Z) ∧ LG I' 26 [22, 21, 20] ∧ FrC I0 I' := by
  have hq177 := hq.1.1
  have hg : ∀ J : Nat → Nat → Int32, gC (enc J D K n Z) q = some (K q) := fun J => gC_e hq.1
  obtain ⟨I1, a1, t1, z1⟩ := c_tr (D := D) (K := K) (n := n) (Z := Z) hl (by decide) 22
  have a1 : f_X6_add (enc I0 D K n Z) 26 (22 : Int32) = some (enc I1 D K n Z) := a1
  obtain ⟨I2, a2, t2, z2⟩ := c_tr (D := D) (K := K) (n := n) (Z := Z) t1 (by decide) 21
  have a2 : f_X6_add (enc I1 D K n Z) 26 (21 : Int32) = some (enc I2 D K n Z) := a2
  obtain ⟨I3, a3, t3, z3⟩ := c_tr (D := D) (K := K) (n := n) (Z := Z) t2 (by decide) 20
  have a3 : f_X6_add (enc I2 D K n Z) 26 (20 : Int32) = some (enc I3 D K n Z) := a3
  have y1 : I1 q = I0 q := z1 q (by omega) (by omega)
  have y2 : I2 q = I0 q := (z1.trans z2) q (by omega) (by omega)
  have y3 : I3 q = I0 q := ((z1.trans z2).trans z3) q (by omega) (by omega)
  refine ⟨I3, ?_, t3, ((z1.trans z2).trans z3)⟩
  simp only [v_X2_mark, v_X4_mark, v_X5_size, hg, hK, Nat.reduceEqDiff, if_false, if_true, f_X0_size, f_X0_mark, f_X1_mark, f_X4_size, f_X4_mark, f_X5_size, f_X5_mark, f_X9_size, f_X2_size, f_X2_mark, c26, bA_s, b2_s, a1, a2, a3, gD_e hq.1 3 (by decide), gD_e hq.1 0 (by decide), y1, y2, y3, hq.2.2.1, hq.2.2.2.2.2]
set_option maxRecDepth 100000 in
set_option maxHeartbeats 4000000 in
theorem m_mark3 {I0 : Nat → Nat → Int32} {k : Nat} (hk : k < 8) (hM : MH (I0 166) r) (hkd : r (14 + 5 * k) = 3) (hl : MT I0 []) : ∃ I', f_X12_markOf (enc I0 D K n Z) 162 (nI k) = some ((nI k + nI (r (18 + 5 * k))) - (1000 : Int32), enc I' D K n Z) ∧ MT I' [22, 21, 20] ∧ FrT I0 I' := by
  have M0 := hM
  obtain ⟨I1, a1, t1, z1⟩ := m_began (D := D) (K := K) (n := n) (Z := Z) hl (by decide) 22
  have a1 : f_X12_began (enc I0 D K n Z) 162 (22 : Int32) = some (enc I1 D K n Z) := a1
  have M1 : MH (I1 166) r := by rw [z1.1 166 (by decide) (by decide)]; exact M0
  obtain ⟨I2, a2, t2, z2⟩ := m_began (D := D) (K := K) (n := n) (Z := Z) t1 (by decide) 21
  have a2 : f_X12_began (enc I1 D K n Z) 162 (21 : Int32) = some (enc I2 D K n Z) := a2
  have M2 : MH (I2 166) r := by rw [z2.1 166 (by decide) (by decide)]; exact M1
  obtain ⟨I3, a3, t3, z3⟩ := m_began (D := D) (K := K) (n := n) (Z := Z) t2 (by decide) 20
  have a3 : f_X12_began (enc I2 D K n Z) 162 (20 : Int32) = some (enc I3 D K n Z) := a3
  have M3 : MH (I3 166) r := by rw [z3.1 166 (by decide) (by decide)]; exact M2
  refine ⟨I3, ?_, t3, ((z1.trans z2).trans z3)⟩
  simp only [f_X12_sizeOf, f_X12_markOf, f_X12_lockSize, f_X12_plainSize, r162_5, c162, bA_s, b2_s, m_of0 R166 M0 hk, m_of3 R166 M0 hk, m_of4 R166 M0 hk, m_of0 R166 M1 hk, m_of3 R166 M1 hk, m_of4 R166 M1 hk, m_of0 R166 M2 hk, m_of3 R166 M2 hk, m_of4 R166 M2 hk, m_of0 R166 M3 hk, m_of3 R166 M3 hk, m_of4 R166 M3 hk, hkd, if_neg (show ¬ nI 3 = (1 : Int32) by decide), if_neg (show ¬ nI 3 = (2 : Int32) by decide), if_pos (show nI 3 = (3 : Int32) by decide), if_neg (show ¬ nI 3 = (5 : Int32) by decide), if_pos (show nI 3 < (4 : Int32) by decide), if_neg one0, if_true, a1, a2, a3]
set_option maxRecDepth 100000 in
set_option maxHeartbeats 4000000 in
theorem c_mark4 {I0 : Nat → Nat → Int32} {q k : Nat} (hq : DR I0 K n q k r) (hK : K q = 4) (hl : LG I0 26 []) : ∃ I', v_X2_mark (K q) (enc I0 D K n Z) q (nI (r (18 + 5 * k))) 26 = some (nI k - (nI (r (17 + 5 * k)) - (100 : Int32)), enc I' D K n Z) ∧ LG I' 26 [23, 20, 13, 10] ∧ FrC I0 I' := by
  have hq177 := hq.1.1
  have hg : ∀ J : Nat → Nat → Int32, gC (enc J D K n Z) q = some (K q) := fun J => gC_e hq.1
  obtain ⟨I1, a1, t1, z1⟩ := c_tr (D := D) (K := K) (n := n) (Z := Z) hl (by decide) 23
  have a1 : f_X6_add (enc I0 D K n Z) 26 (23 : Int32) = some (enc I1 D K n Z) := a1
  obtain ⟨I2, a2, t2, z2⟩ := c_tr (D := D) (K := K) (n := n) (Z := Z) t1 (by decide) 20
  have a2 : f_X6_add (enc I1 D K n Z) 26 (20 : Int32) = some (enc I2 D K n Z) := a2
  obtain ⟨I3, a3, t3, z3⟩ := c_tr (D := D) (K := K) (n := n) (Z := Z) t2 (by decide) 13
  have a3 : f_X6_add (enc I2 D K n Z) 26 (13 : Int32) = some (enc I3 D K n Z) := a3
  obtain ⟨I4, a4, t4, z4⟩ := c_tr (D := D) (K := K) (n := n) (Z := Z) t3 (by decide) 10
  have a4 : f_X6_add (enc I3 D K n Z) 26 (10 : Int32) = some (enc I4 D K n Z) := a4
  have y1 : I1 q = I0 q := z1 q (by omega) (by omega)
  have y2 : I2 q = I0 q := (z1.trans z2) q (by omega) (by omega)
  have y3 : I3 q = I0 q := ((z1.trans z2).trans z3) q (by omega) (by omega)
  have y4 : I4 q = I0 q := (((z1.trans z2).trans z3).trans z4) q (by omega) (by omega)
  refine ⟨I4, ?_, t4, (((z1.trans z2).trans z3).trans z4)⟩
  simp only [v_X2_mark, v_X4_mark, v_X5_size, hg, hK, Nat.reduceEqDiff, if_false, if_true, f_X0_size, f_X0_mark, f_X1_mark, f_X4_size, f_X4_mark, f_X5_size, f_X5_mark, f_X9_size, f_X2_size, f_X2_mark, c26, bA_s, b2_s, a1, a2, a3, a4, gD_e hq.1 3 (by decide), gD_e hq.1 0 (by decide), y1, y2, y3, y4, hq.2.2.1, hq.2.2.2.2.2]
set_option maxRecDepth 100000 in
set_option maxHeartbeats 4000000 in
theorem m_mark4 {I0 : Nat → Nat → Int32} {k : Nat} (hk : k < 8) (hM : MH (I0 166) r) (hkd : r (14 + 5 * k) = 4) (hl : MT I0 []) : ∃ I', f_X12_markOf (enc I0 D K n Z) 162 (nI k) = some (nI k - (nI (r (17 + 5 * k)) - (100 : Int32)), enc I' D K n Z) ∧ MT I' [23, 20, 13, 10] ∧ FrT I0 I' := by
  have M0 := hM
  obtain ⟨I1, a1, t1, z1⟩ := m_began (D := D) (K := K) (n := n) (Z := Z) hl (by decide) 23
  have a1 : f_X12_began (enc I0 D K n Z) 162 (23 : Int32) = some (enc I1 D K n Z) := a1
  have M1 : MH (I1 166) r := by rw [z1.1 166 (by decide) (by decide)]; exact M0
  obtain ⟨I2, a2, t2, z2⟩ := m_began (D := D) (K := K) (n := n) (Z := Z) t1 (by decide) 20
  have a2 : f_X12_began (enc I1 D K n Z) 162 (20 : Int32) = some (enc I2 D K n Z) := a2
  have M2 : MH (I2 166) r := by rw [z2.1 166 (by decide) (by decide)]; exact M1
  obtain ⟨I3, a3, t3, z3⟩ := m_began (D := D) (K := K) (n := n) (Z := Z) t2 (by decide) 13
  have a3 : f_X12_began (enc I2 D K n Z) 162 (13 : Int32) = some (enc I3 D K n Z) := a3
  have M3 : MH (I3 166) r := by rw [z3.1 166 (by decide) (by decide)]; exact M2
  obtain ⟨I4, a4, t4, z4⟩ := m_began (D := D) (K := K) (n := n) (Z := Z) t3 (by decide) 10
  have a4 : f_X12_began (enc I3 D K n Z) 162 (10 : Int32) = some (enc I4 D K n Z) := a4
  have M4 : MH (I4 166) r := by rw [z4.1 166 (by decide) (by decide)]; exact M3
  refine ⟨I4, ?_, t4, (((z1.trans z2).trans z3).trans z4)⟩
  simp only [f_X12_sizeOf, f_X12_markOf, f_X12_lockSize, f_X12_plainSize, r162_5, c162, bA_s, b2_s, m_of0 R166 M0 hk, m_of3 R166 M0 hk, m_of4 R166 M0 hk, m_of0 R166 M1 hk, m_of3 R166 M1 hk, m_of4 R166 M1 hk, m_of0 R166 M2 hk, m_of3 R166 M2 hk, m_of4 R166 M2 hk, m_of0 R166 M3 hk, m_of3 R166 M3 hk, m_of4 R166 M3 hk, m_of0 R166 M4 hk, m_of3 R166 M4 hk, m_of4 R166 M4 hk, hkd, if_neg (show ¬ nI 4 = (1 : Int32) by decide), if_neg (show ¬ nI 4 = (2 : Int32) by decide), if_neg (show ¬ nI 4 = (3 : Int32) by decide), if_neg (show ¬ nI 4 = (5 : Int32) by decide), if_neg (show ¬ nI 4 < (4 : Int32) by decide), if_neg one0, if_true, a1, a2, a3, a4]
set_option maxRecDepth 100000 in
set_option maxHeartbeats 4000000 in
theorem c_mark5 {I0 : Nat → Nat → Int32} {q k : Nat} (hq : DR I0 K n q k r) (hK : K q = 8) (hl : LG I0 26 []) : ∃ I', v_X2_mark (K q) (enc I0 D K n Z) q (nI (r (18 + 5 * k))) 26 = some (nI k - (2 : Int32) * (nI (r (17 + 5 * k)) - (100 : Int32)), enc I' D K n Z) ∧ LG I' 26 [23, 20, 14, 13, 10] ∧ FrC I0 I' := by
  have hq177 := hq.1.1
  have hg : ∀ J : Nat → Nat → Int32, gC (enc J D K n Z) q = some (K q) := fun J => gC_e hq.1
  obtain ⟨I1, a1, t1, z1⟩ := c_tr (D := D) (K := K) (n := n) (Z := Z) hl (by decide) 23
  have a1 : f_X6_add (enc I0 D K n Z) 26 (23 : Int32) = some (enc I1 D K n Z) := a1
  obtain ⟨I2, a2, t2, z2⟩ := c_tr (D := D) (K := K) (n := n) (Z := Z) t1 (by decide) 20
  have a2 : f_X6_add (enc I1 D K n Z) 26 (20 : Int32) = some (enc I2 D K n Z) := a2
  obtain ⟨I3, a3, t3, z3⟩ := c_tr (D := D) (K := K) (n := n) (Z := Z) t2 (by decide) 14
  have a3 : f_X6_add (enc I2 D K n Z) 26 (14 : Int32) = some (enc I3 D K n Z) := a3
  obtain ⟨I4, a4, t4, z4⟩ := c_tr (D := D) (K := K) (n := n) (Z := Z) t3 (by decide) 13
  have a4 : f_X6_add (enc I3 D K n Z) 26 (13 : Int32) = some (enc I4 D K n Z) := a4
  obtain ⟨I5, a5, t5, z5⟩ := c_tr (D := D) (K := K) (n := n) (Z := Z) t4 (by decide) 10
  have a5 : f_X6_add (enc I4 D K n Z) 26 (10 : Int32) = some (enc I5 D K n Z) := a5
  have y1 : I1 q = I0 q := z1 q (by omega) (by omega)
  have y2 : I2 q = I0 q := (z1.trans z2) q (by omega) (by omega)
  have y3 : I3 q = I0 q := ((z1.trans z2).trans z3) q (by omega) (by omega)
  have y4 : I4 q = I0 q := (((z1.trans z2).trans z3).trans z4) q (by omega) (by omega)
  have y5 : I5 q = I0 q := ((((z1.trans z2).trans z3).trans z4).trans z5) q (by omega) (by omega)
  refine ⟨I5, ?_, t5, ((((z1.trans z2).trans z3).trans z4).trans z5)⟩
  simp only [v_X2_mark, v_X4_mark, v_X5_size, hg, hK, Nat.reduceEqDiff, if_false, if_true, f_X0_size, f_X0_mark, f_X1_mark, f_X4_size, f_X4_mark, f_X5_size, f_X5_mark, f_X9_size, f_X2_size, f_X2_mark, c26, bA_s, b2_s, a1, a2, a3, a4, a5, gD_e hq.1 3 (by decide), gD_e hq.1 0 (by decide), y1, y2, y3, y4, y5, hq.2.2.1, hq.2.2.2.2.2]
set_option maxRecDepth 100000 in
set_option maxHeartbeats 4000000 in
theorem m_mark5 {I0 : Nat → Nat → Int32} {k : Nat} (hk : k < 8) (hM : MH (I0 166) r) (hkd : r (14 + 5 * k) = 5) (hl : MT I0 []) : ∃ I', f_X12_markOf (enc I0 D K n Z) 162 (nI k) = some (nI k - (2 : Int32) * (nI (r (17 + 5 * k)) - (100 : Int32)), enc I' D K n Z) ∧ MT I' [23, 20, 14, 13, 10] ∧ FrT I0 I' := by
  have M0 := hM
  obtain ⟨I1, a1, t1, z1⟩ := m_began (D := D) (K := K) (n := n) (Z := Z) hl (by decide) 23
  have a1 : f_X12_began (enc I0 D K n Z) 162 (23 : Int32) = some (enc I1 D K n Z) := a1
  have M1 : MH (I1 166) r := by rw [z1.1 166 (by decide) (by decide)]; exact M0
  obtain ⟨I2, a2, t2, z2⟩ := m_began (D := D) (K := K) (n := n) (Z := Z) t1 (by decide) 20
  have a2 : f_X12_began (enc I1 D K n Z) 162 (20 : Int32) = some (enc I2 D K n Z) := a2
  have M2 : MH (I2 166) r := by rw [z2.1 166 (by decide) (by decide)]; exact M1
  obtain ⟨I3, a3, t3, z3⟩ := m_began (D := D) (K := K) (n := n) (Z := Z) t2 (by decide) 14
  have a3 : f_X12_began (enc I2 D K n Z) 162 (14 : Int32) = some (enc I3 D K n Z) := a3
  have M3 : MH (I3 166) r := by rw [z3.1 166 (by decide) (by decide)]; exact M2
  obtain ⟨I4, a4, t4, z4⟩ := m_began (D := D) (K := K) (n := n) (Z := Z) t3 (by decide) 13
  have a4 : f_X12_began (enc I3 D K n Z) 162 (13 : Int32) = some (enc I4 D K n Z) := a4
  have M4 : MH (I4 166) r := by rw [z4.1 166 (by decide) (by decide)]; exact M3
  obtain ⟨I5, a5, t5, z5⟩ := m_began (D := D) (K := K) (n := n) (Z := Z) t4 (by decide) 10
  have a5 : f_X12_began (enc I4 D K n Z) 162 (10 : Int32) = some (enc I5 D K n Z) := a5
  have M5 : MH (I5 166) r := by rw [z5.1 166 (by decide) (by decide)]; exact M4
  refine ⟨I5, ?_, t5, ((((z1.trans z2).trans z3).trans z4).trans z5)⟩
  simp only [f_X12_sizeOf, f_X12_markOf, f_X12_lockSize, f_X12_plainSize, r162_5, c162, bA_s, b2_s, m_of0 R166 M0 hk, m_of3 R166 M0 hk, m_of4 R166 M0 hk, m_of0 R166 M1 hk, m_of3 R166 M1 hk, m_of4 R166 M1 hk, m_of0 R166 M2 hk, m_of3 R166 M2 hk, m_of4 R166 M2 hk, m_of0 R166 M3 hk, m_of3 R166 M3 hk, m_of4 R166 M3 hk, m_of0 R166 M4 hk, m_of3 R166 M4 hk, m_of4 R166 M4 hk, m_of0 R166 M5 hk, m_of3 R166 M5 hk, m_of4 R166 M5 hk, hkd, if_neg (show ¬ nI 5 = (1 : Int32) by decide), if_neg (show ¬ nI 5 = (2 : Int32) by decide), if_neg (show ¬ nI 5 = (3 : Int32) by decide), if_pos (show nI 5 = (5 : Int32) by decide), if_neg (show ¬ nI 5 < (4 : Int32) by decide), if_neg one0, if_true, a1, a2, a3, a4, a5]
theorem d_size {q k : Nat} (hk : k < 8) (hq0 : DR I K n q k r) : ∃ (v : Int32) (l : List Nat), l.length ≤ 16 ∧ (∀ I0, DR I0 K n q k r → LG I0 26 [] → ∃ I', v_X2_size (K q) (enc I0 D K n Z) q (nI (r (18 + 5 * k))) 26 = some (v, enc I' D K n Z) ∧ LG I' 26 l ∧ FrC I0 I') ∧ (∀ I0 : Nat → Nat → Int32, MH (I0 166) r → MT I0 [] → ∃ I', f_X12_sizeOf (enc I0 D K n Z) 162 (nI k) = some (v, enc I' D K n Z) ∧ MT I' l ∧ FrT I0 I') := by
  have hkd := hq0.2.1
  rcases isD5 hq0.1.2.2 with e | e | e | e | e <;> rw [e] at hkd
  · exact ⟨-(nI (r (17 + 5 * k)) + ((2 : Int32) * (nI k + nI (r (18 + 5 * k))))), [12, 11, 10, 24, 21, 20], by decide, fun I0 a b => c_size2 a e b, fun I0 a b => m_size2 hk a hkd.symm b⟩
  · exact ⟨nI (r (17 + 5 * k)) + ((nI k + nI (r (18 + 5 * k))) - (1000 : Int32)), [11, 10, 22, 21, 20], by decide, fun I0 a b => c_size3 a e b, fun I0 a b => m_size3 hk a hkd.symm b⟩
  · exact ⟨nI (r (17 + 5 * k)) + (nI k + nI (r (18 + 5 * k))), [11, 10, 21, 20], by decide, fun I0 a b => c_size1 a e b, fun I0 a b => m_size1 hk a hkd.symm b⟩
  · exact ⟨nI (r (17 + 5 * k)) - (100 : Int32), [13, 10], by decide, fun I0 a b => c_size4 a e b, fun I0 a b => m_size4 hk a hkd.symm b⟩
  · exact ⟨(2 : Int32) * (nI (r (17 + 5 * k)) - (100 : Int32)), [14, 13, 10], by decide, fun I0 a b => c_size5 a e b, fun I0 a b => m_size5 hk a hkd.symm b⟩
theorem d_mark {q k : Nat} (hk : k < 8) (hq0 : DR I K n q k r) : ∃ (v : Int32) (l : List Nat), l.length ≤ 16 ∧ (∀ I0, DR I0 K n q k r → LG I0 26 [] → ∃ I', v_X2_mark (K q) (enc I0 D K n Z) q (nI (r (18 + 5 * k))) 26 = some (v, enc I' D K n Z) ∧ LG I' 26 l ∧ FrC I0 I') ∧ (∀ I0 : Nat → Nat → Int32, MH (I0 166) r → MT I0 [] → ∃ I', f_X12_markOf (enc I0 D K n Z) 162 (nI k) = some (v, enc I' D K n Z) ∧ MT I' l ∧ FrT I0 I') := by
  have hkd := hq0.2.1
  rcases isD5 hq0.1.2.2 with e | e | e | e | e <;> rw [e] at hkd
  · exact ⟨(2 : Int32) * (nI k + nI (r (18 + 5 * k))), [24, 21, 20], by decide, fun I0 a b => c_mark2 a e b, fun I0 a b => m_mark2 hk a hkd.symm b⟩
  · exact ⟨(nI k + nI (r (18 + 5 * k))) - (1000 : Int32), [22, 21, 20], by decide, fun I0 a b => c_mark3 a e b, fun I0 a b => m_mark3 hk a hkd.symm b⟩
  · exact ⟨nI k + nI (r (18 + 5 * k)), [21, 20], by decide, fun I0 a b => c_mark1 a e b, fun I0 a b => m_mark1 hk a hkd.symm b⟩
  · exact ⟨nI k - (nI (r (17 + 5 * k)) - (100 : Int32)), [23, 20, 13, 10], by decide, fun I0 a b => c_mark4 a e b, fun I0 a b => m_mark4 hk a hkd.symm b⟩
  · exact ⟨nI k - (2 : Int32) * (nI (r (17 + 5 * k)) - (100 : Int32)), [23, 20, 14, 13, 10], by decide, fun I0 a b => c_mark5 a e b, fun I0 a b => m_mark5 hk a hkd.symm b⟩
set_option maxRecDepth 100000 in
set_option maxHeartbeats 4000000 in
theorem k_ask (h : Inv I D K n N) (x w : Int32) : GD Z N (enc I D K n Z) (fun h => f_X11_ask h 0 x w) (fun h => f_X12_ask h 162 x w) := by
  obtain ⟨r, hc, hM, hw⟩ := h.2.2.1
  obtain ⟨r18, r08⟩ := ho8 hw
  have hM' := thr_M (show 166 ≠ 162 by decide) hM
  have hin : ∀ h : Hp, f_X12_in h w.toInt64 (0 : Int64) (1 : Int64) = some (if (0 : Int) ≤ w.toInt ∧ w.toInt ≤ (1 : Nat) then 1 else 0, h) := fun h => in02 h w 1 (by decide) (by decide)
  by_cases hx : 0 ≤ x.toInt ∧ x.toInt < r 0
  · obtain ⟨k, hk, rfl⟩ := (ix_in (m := r 0) (by omega)).mp hx
    obtain ⟨q, hq1, hq2⟩ := hc.2.2.2 k hk
    have hq1 : D 12 k = some q := hq1
    have hq177 := hq2.1.1
    have hwr : I 11 k = nI (r (18 + 5 * k)) := hc.2.2.1 k hk
    have hk8 : k < 8 := by omega
    have ld : f_X3_lacksDoor (enc I D K n Z) 9 (nI k) = some (0, enc I D K n Z) := by rw [c_lacksDoor h9 r08 hc.1.2.1, if_pos hx]
    by_cases hww : (0 : Int) ≤ w.toInt ∧ w.toInt ≤ (1 : Nat)
    · have w0 : ¬ w < 0 := by rw [fa_lt, i32z]; omega
      have w1 : w ≤ (1 : Int32) := by rw [fa_le, show (1 : Int32).toInt = 1 by decide]; omega
      generalize hI0 : va_up I 26 (upd (I 26) 1 0) = I0
      have f0 : ∀ x, x ≠ 26 → I0 x = I x := fun x hx => by rw [← hI0, va_up_ne _ _ hx]
      have hl0 : LG I0 26 [] := ⟨by rw [← hI0, va_up_self, pk_us]; rfl, fun i hi => absurd hi (Nat.not_lt_zero i)⟩
      have hq0 : DR I0 K n q k r := hq2.keep (f0 q (by omega))
      have lw : ald (enc I0 D K n Z) 11 0 (nI k) = some (nI (r (18 + 5 * k))) := by rw [← hwr, ← f0 11 (by decide)]; exact ald_n (s_H2 h9) k hk8 (by decide)
      have key : ∀ (v : Int32) (l : List Nat) (I1 I2 : Nat → Nat → Int32), l.length ≤ 16 → LG I1 26 l → FrC I0 I1 → MT I2 l → FrT (va_up (thr I1) 162 (upd (thr I1 162) 31 0)) I2 → Inv I2 D K n (N + 1) := by
        intro v l I1 I2 hl g1 g2 g3 g4
        have q1 : ∀ x, x ≠ 162 → x ≠ 176 → x ≠ 26 → x ≠ 27 → I2 x = I x := fun x a b c d => by rw [g4.1 x a b, va_up_ne _ _ a, thr_n a, g2 x c d, f0 x c]
        have q2 : ∀ j, j ≠ 31 → j ≠ 0 → I2 162 j = I 162 j := fun j a b => by rw [g4.2 j a, va_up_self, pk_un a, thr_s b, g2 162 (by decide) (by decide), f0 162 (by decide)]
        obtain ⟨h1, ⟨h2, h3, h4, h5, h6⟩, h7, h8, h9', h10, h11⟩ := h
        have g : DK I K n I2 K n := DK.of (fun q hq => q1 q (by omega) (by omega) (by omega) (by omega))
        refine ⟨h1.keep (fun x hx => q1 x (by omega) (by omega) (by omega) (by omega)), ⟨h2.keep (by rw [q1 2 (by decide) (by decide) (by decide) (by decide)]) (q1 3 (by decide) (by decide) (by decide) (by decide)) (q2 11 (by decide) (by decide)) (q1 170 (by decide) (by decide) (by decide) (by decide)), ?_, ?_, h5.keep (by rw [q1 13 (by decide) (by decide) (by decide) (by decide)]) (q1 14 (by decide) (by decide) (by decide) (by decide)) (q2 27 (by decide) (by decide)) (q1 173 (by decide) (by decide) (by decide) (by decide)), ?_⟩, h7.keep (by omega) g (fun x a b => q1 x (by omega) (by omega) (by omega) (by omega)) rfl (q1 166 (by decide) (by decide) (by decide) (by decide)), h8.keep (by omega) g (by rw [q1 0 (by decide) (by decide) (by decide) (by decide)]) (by rw [q1 0 (by decide) (by decide) (by decide) (by decide)]) (q2 9 (by decide) (by decide)) (fun x a b => ⟨q1 x (by omega) (by omega) (by omega) (by omega), rfl⟩) (q1 169 (by decide) (by decide) (by decide) (by decide)), h9'.keep (by omega) g (fun x a b => ⟨q1 x (by omega) (by omega) (by omega) (by omega), rfl⟩) (q1 174 (by decide) (by decide) (by decide) (by decide)) (q1 175 (by decide) (by decide) (by decide) (by decide)), h10, h11⟩
        · rw [q1 0 (by decide) (by decide) (by decide) (by decide), q2 18 (by decide) (by decide)]; exact h3
        · rw [q1 0 (by decide) (by decide) (by decide) (by decide), q2 1 (by decide) (by decide)]; exact h4
        · have e26 : I2 26 = I1 26 := by rw [g4.1 26 (by decide) (by decide), va_up_ne _ _ (by decide), thr_n (by decide)]
          have e27 : I2 27 = I1 27 := by rw [g4.1 27 (by decide) (by decide), va_up_ne _ _ (by decide), thr_n (by decide)]
          refine ⟨l.length, hl, by rw [e26]; exact g1.1, g3.1, fun j hj => ?_⟩
          rw [e27, g3.2 j hj]; exact g1.2 j hj
      have mt : ∀ J : Nat → Nat → Int32, MT (va_up (thr J) 162 (upd (thr J 162) 31 0)) [] := fun J => ⟨by rw [va_up_self, pk_us]; rfl, fun i hi => absurd hi (Nat.not_lt_zero i)⟩
      have mm : ∀ J : Nat → Nat → Int32, FrC I0 J → MH (va_up (thr J) 162 (upd (thr J 162) 31 0) 166) r ∧ MH (thr J 166) r := fun J g => by
        have e : thr J 166 = I 166 := by rw [thr_n (by decide), g 166 (by decide) (by decide), f0 166 (by decide)]
        exact ⟨by rw [va_up_ne _ _ (by decide), e]; exact hM, by rw [e]; exact hM⟩
      by_cases wz : w = 0
      · obtain ⟨v, l, hl, c1, c2⟩ := d_size (D := D) (Z := Z) hk8 hq0
        obtain ⟨I1, a1, a2, a3⟩ := c1 I0 hq0 hl0
        obtain ⟨I2, b1, b2', b3⟩ := c2 _ (mm I1 a3).1 (mt I1)
        refine ⟨v, enc I1 D K n Z, I2, D, K, n, ?_, ?_, key v l I1 I2 hl a2 a3 b2' b3⟩
        · simp only [f_X11_ask, r0_3, bA_s, c9, c_doorAt_in h9 r08 hc.1.2.1 hk, b2_s, hq1, ld, if_true, if_neg w0, if_pos w1, r0_9, c26, c_clear nu26, hI0, r9_1, lw, if_pos wz, gC_e hq2.1, a1]
        · simp only [f_X12_ask, p_thr, bA_s, c162, m_isDoor (mm I1 a3).2 r08, b2_s, if_pos hx, if_neg one0, hin, if_pos hww, p162_31, if_pos wz, b1]
      · obtain ⟨v, l, hl, c1, c2⟩ := d_mark (D := D) (Z := Z) hk8 hq0
        obtain ⟨I1, a1, a2, a3⟩ := c1 I0 hq0 hl0
        obtain ⟨I2, b1, b2', b3⟩ := c2 _ (mm I1 a3).1 (mt I1)
        refine ⟨v, enc I1 D K n Z, I2, D, K, n, ?_, ?_, key v l I1 I2 hl a2 a3 b2' b3⟩
        · simp only [f_X11_ask, r0_3, bA_s, c9, c_doorAt_in h9 r08 hc.1.2.1 hk, b2_s, hq1, ld, if_true, if_neg w0, if_pos w1, r0_9, c26, c_clear nu26, hI0, r9_1, lw, if_neg wz, gC_e hq2.1, a1]
        · simp only [f_X12_ask, p_thr, bA_s, c162, m_isDoor (mm I1 a3).2 r08, b2_s, if_pos hx, if_neg one0, hin, if_pos hww, p162_31, if_neg wz, b1]
    · refine ⟨-1000001, enc I D K n Z, _, D, K, n, ?_, ?_, h.thr⟩
      · by_cases w0 : w < 0
        · simp only [f_X11_ask, r0_3, bA_s, c9, c_doorAt_in h9 r08 hc.1.2.1 hk, b2_s, hq1, ld, if_true, if_pos w0]
        · have w0' := fa_of_nlt w0
          rw [fa_le, i32z] at w0'
          have w5 : ¬ w ≤ (1 : Int32) := by rw [fa_le, show (1 : Int32).toInt = 1 by decide]; omega
          simp only [f_X11_ask, r0_3, bA_s, c9, c_doorAt_in h9 r08 hc.1.2.1 hk, b2_s, hq1, ld, if_true, if_neg w0, if_neg w5]
      · simp only [f_X12_ask, p_thr, bA_s, c162, m_isDoor hM' r08, b2_s, if_pos hx, if_neg one0, hin, if_neg hww, if_true]
  · refine ⟨-1000001, enc I D K n Z, _, D, K, n, ?_, ?_, h.thr⟩
    · simp only [f_X11_ask, r0_3, bA_s, c9, c_doorAt_out h9 r08 hc.1.2.1 hx, b2_s]
    · simp only [f_X12_ask, p_thr, bA_s, c162, m_isDoor hM' r08, b2_s, if_neg hx, if_true]
end Ask
