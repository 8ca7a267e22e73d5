/-! CALLS ABOUT ROWS: row, set, copy -/
theorem sum64 (x y : Int32) : (x.toInt64 + y.toInt64).toInt = x.toInt + y.toInt := by
  have h1 := Int32.le_toInt x
  have h2 := Int32.toInt_lt x
  have h3 := Int32.le_toInt y
  have h4 := Int32.toInt_lt y
  rw [Int64.toInt_add, Int32.toInt_toInt64, Int32.toInt_toInt64, Int.bmod_eq_of_le] <;> omega
theorem sum_gt (x y z : Int32) : (0 < lg_cmp (x.toInt64 + y.toInt64) z.toInt64) = (z.toInt < x.toInt + y.toInt) := by
  rw [lgc_gt, fa_lt64, sum64, Int32.toInt_toInt64]
theorem sum_le (x y z : Int32) : (lg_cmp (x.toInt64 + y.toInt64) z.toInt64 ≤ 0) = ¬ (z.toInt < x.toInt + y.toInt) := by
  rw [← sum_gt, eq_iff_iff]
  constructor
  · intro h g
    exact absurd g (fun g => by
      rw [fa_lt] at g; rw [fa_le] at h; omega)
  · intro h; exact fa_of_nlt h
section RowCalls2
variable {I I' : Nat → Nat → Int32} {D : Nat → Nat → Option Nat} {K : Nat → Nat} {n N : Nat} {Z : Nat → Cl}
theorem c_rb_L {k m : Nat} (hk : k < 8) (hm : m ≤ 40) (x1 x2 : Int32) {β : Type} (kk : Int32 → Hp → Option β) : ∀ (d fuel j : Nat) (I : Nat → Nat → Int32), j + d = m → d < fuel → I (30 + 2 * k) 2 = nI m → ∃ I' y, f_X8_begin_L24 kk (30 + 2 * k) x1 x2 fuel (enc I D K n Z) (nI j) = kk y (enc I' D K n Z) ∧ (∀ x, x ≠ 31 + 2 * k → I' x = I x) ∧ (∀ i, i < j → I' (31 + 2 * k) i = I (31 + 2 * k) i) ∧ (∀ i, j ≤ i → i < m → I' (31 + 2 * k) i = 0) := by
  intro d
  induction d with
  | zero =>
    intro fuel j I hj hf h2
    obtain ⟨f, rfl⟩ : ∃ f, fuel = f + 1 := ⟨fuel - 1, by omega⟩
    refine ⟨I, nI j, ?_, fun _ _ => rfl, fun _ _ => rfl, fun i a b => by omega⟩
    rw [f_X8_begin_L24]
    simp only [gI_e (s_R hk) 2 rfl, bA_s, h2]
    rw [if_pos (nI_le (by omega) (by omega))]
  | succ d ih =>
    intro fuel j I hj hf h2
    obtain ⟨f, rfl⟩ : ∃ f, fuel = f + 1 := ⟨fuel - 1, by omega⟩
    rw [f_X8_begin_L24]
    simp only [gI_e (s_R hk) 2 rfl, bA_s, h2]
    rw [if_neg (nI_ge (by omega) (by omega))]
    simp only [gN_e (s_R hk) 0 rfl, bA_s, ast_n (s_R1 hk) j _ (show j < 40 by omega) (by decide), z_i2]
    obtain ⟨I', y, g1, g2, g3, g4⟩ := ih f (j + 1) (va_up I (31 + 2 * k) (upd (I (31 + 2 * k)) j 0)) (by omega) (by omega) (by rw [va_up_ne _ _ (by omega)]; exact h2)
    refine ⟨I', y, g1, fun x hx => by rw [g2 x hx, va_up_ne _ _ hx], fun i hi => by rw [g3 i (by omega), va_up_self, pk_un (by omega)], fun i a b => ?_⟩
    by_cases e : i = j
    · subst e; rw [g3 i (by omega), va_up_self, pk_us]
    · exact g4 i (by omega) b
theorem c_rb {k m : Nat} (hk : k < 8) (hm : m ≤ 40) (x1 : Int32) : ∃ I', f_X8_begin (enc I D K n Z) (30 + 2 * k) x1 (nI m) = some (enc I' D K n Z) ∧ (∀ x, x ≠ 30 + 2 * k → x ≠ 31 + 2 * k → I' x = I x) ∧ I' (30 + 2 * k) 1 = x1 ∧ I' (30 + 2 * k) 2 = nI m ∧ (∀ i, i < m → I' (31 + 2 * k) i = 0) := by
  have e1 : (if nI 40 < nI m then nI 40 else nI m) = nI m := by
    simp only [z_lt (show 40 < 2 ^ 31 by decide) (show m < 2 ^ 31 by omega), if_neg (show ¬ 40 < m by omega)]
  have e2 : (if (0 : Int32) < nI m then nI m else (0 : Int32)) = nI m := by
    rw [show (0 : Int32) = nI 0 by decide]
    simp only [z_lt (show 0 < 2 ^ 31 by decide) (show m < 2 ^ 31 by omega)]
    by_cases h : 0 < m
    · rw [if_pos h]
    · rw [if_neg h, show m = 0 by omega]
  simp only [f_X8_begin, pV_e (s_R hk) 1 rfl, bA_s, gN_e (s_R hk) 0 rfl, aln_e (s_R1 hk), pV_e (s_R hk) 2 rfl, va_up_self, bx_uu, e1, e2]
  obtain ⟨I', y, g1, g2, g3, g4⟩ := c_rb_L (D := D) (K := K) (n := n) (Z := Z) hk hm x1 (nI m) (fun y17 h16 => some h16) m 2000 0 (va_up I (30 + 2 * k) (upd (upd (I (30 + 2 * k)) 1 x1) 2 (nI m))) (by omega) (by omega) (by rw [va_up_self, pk_us])
  rw [show nI 0 = (0 : Int32) by decide] at g1
  refine ⟨I', g1, fun x a b => by rw [g2 x b, va_up_ne _ _ a], ?_, ?_, fun i hi => g4 i (by omega) hi⟩
  · rw [g2 _ (by omega), va_up_self, pk_un (by decide), pk_us]
  · rw [g2 _ (by omega), va_up_self, pk_us]
theorem m_row_L {k : Nat} (hk : k < 8) (x2 x3 : Int32) {β : Type} (kk : Int32 → Hp → Option β) : ∀ (d fuel j : Nat) (I : Nat → Nat → Int32), j + d = 40 → d < fuel → ∃ I', f_X12_row_L65 kk 162 (nI k) x2 x3 fuel (enc I D K n Z) (nI j) = kk (nI 40) (enc I' D K n Z) ∧ (∀ x, x ≠ 165 → I' x = I x) ∧ (∀ i, (i < 40 * k + j ∨ 40 * k + 40 ≤ i) → I' 165 i = I 165 i) ∧ (∀ i, j ≤ i → i < 40 → I' 165 (40 * k + i) = 0) := by
  intro d
  induction d with
  | zero =>
    intro fuel j I hj hf
    obtain ⟨f, rfl⟩ : ∃ f, fuel = f + 1 := ⟨fuel - 1, by omega⟩
    have e : j = 40 := by omega
    subst e
    exact ⟨I, by rw [f_X12_row_L65, if_pos (show (40 : Int32) ≤ nI 40 by decide)], fun _ _ => rfl, fun _ _ => rfl, fun i a b => by omega⟩
  | succ d ih =>
    intro fuel j I hj hf
    obtain ⟨f, rfl⟩ : ∃ f, fuel = f + 1 := ⟨fuel - 1, by omega⟩
    have e8 : ¬ (40 : Int32) ≤ nI j := nI_ge (b := 40) (by omega) (by decide)
    rw [f_X12_row_L65, if_neg e8]
    simp only [r162_4, bA_s, show (40 : Int32) = nI 40 from rfl, pk_mul, nI_add, ast_n s_165 (40 * k + j) _ (show 40 * k + j < 320 by omega) (by decide), z_i2]
    obtain ⟨I', g1, g2, g3, g4⟩ := ih f (j + 1) (va_up I 165 (upd (I 165) (40 * k + j) 0)) (by omega) (by omega)
    refine ⟨I', g1, fun x hx => by rw [g2 x hx, va_up_ne _ _ hx], fun i hi => by rw [g3 i (by omega), va_up_self, pk_un (by omega)], fun i a b => ?_⟩
    by_cases e : i = j
    · subst e; rw [g3 _ (by omega), va_up_self, pk_us]
    · exact g4 i (by omega) b
theorem in02 (h : Hp) (x : Int32) (b : Nat) (hb : b < 2 ^ 31) (hb2 : (nI b).toInt64 = (OfNat.ofNat b : Int64)) : f_X12_in h x.toInt64 (0 : Int64) (OfNat.ofNat b : Int64) = some (if (0 : Int) ≤ x.toInt ∧ x.toInt ≤ b then 1 else 0, h) := by
  have := m_inL h x 0 b (by decide) hb
  rw [show (nI 0).toInt64 = (0 : Int64) by decide, hb2] at this
  exact this
set_option maxRecDepth 100000 in
set_option maxHeartbeats 4000000 in
theorem k_row (h : Inv I D K n N) (x y z : Int32) : GD Z N (enc I D K n Z) (fun h => f_X11_row h 0 x y z) (fun h => f_X12_row h 162 x y z) := by
  have hin : ∀ h : Hp, f_X12_in h y.toInt64 (0 : Int64) (2 : Int64) = some (if (0 : Int) ≤ y.toInt ∧ y.toInt ≤ (2 : Nat) then 1 else 0, h) := fun h => in02 h y 2 (by decide) (by decide)
  by_cases hx : 0 ≤ x.toInt ∧ x.toInt < 8
  · by_cases hy : (0 : Int) ≤ y.toInt ∧ y.toInt ≤ (2 : Nat)
    · have y0 : ¬ y < 0 := by rw [fa_lt, i32z]; omega
      have y2 : ¬ (2 : Int32) < y := by rw [fa_lt, show (2 : Int32).toInt = 2 by decide]; omega
      by_cases hz : z ≤ (40 : Int32)
      · by_cases hz0 : (0 : Int32) ≤ z
        · obtain ⟨k, hk, rfl⟩ := (ix_in (m := 8) (by decide)).mp hx
          obtain ⟨l, hl, rfl⟩ := (ix_in (x := y) (m := 3) (by decide)).mp ⟨hy.1, by omega⟩
          rw [fa_le, show (40 : Int32).toInt = 40 by decide] at hz
          rw [fa_le, i32z] at hz0
          obtain ⟨m, hm, rfl⟩ := (ix_in (x := z) (m := 41) (by decide)).mp ⟨hz0, by omega⟩
          have hD := h.2.2.2.2.2.1.1 k hk
          have c40 : nI m ≤ (40 : Int32) := nI_le (b := 40) (by omega) (by decide)
          have c0' : (0 : Int32) ≤ nI m := zle m (by omega)
          obtain ⟨I1, g1, g2, g3, g4, g5⟩ := c_rb (I := I) (D := D) (K := K) (n := n) (Z := Z) hk (show m ≤ 40 by omega) (nI l)
          have ec : f_X11_row (enc I D K n Z) 0 (nI k) (nI l) (nI m) = some (nI m, enc (va_up I1 0 (upd (I1 0) 15 0)) D K n Z) := by
            simp only [f_X11_row, c_lacksRow, if_pos hx, b2_s, if_true, if_neg y0, if_neg y2, if_pos c40, if_pos c0', r0_0, bA_s, aldn_e s_1 k hk (by decide), hD, isC_e (s_R hk), g1, c0, f_X11_well, p0_15]
          generalize hI2 : va_up I1 0 (upd (I1 0) 15 0) = I2 at ec
          have f2 : ∀ x, x ≠ 0 → I2 x = I1 x := fun x hx => by rw [← hI2, va_up_ne _ _ hx]
          have f20 : I2 0 = upd (I1 0) 15 0 := by rw [← hI2, va_up_self]
          generalize hI3 : va_up I2 162 (upd (upd (I2 162) 0 0) 1 0) = I3
          have f3 : ∀ x, x ≠ 162 → I3 x = I2 x := fun x hx => by rw [← hI3, va_up_ne _ _ hx]
          have f3a : I3 162 = upd (upd (I2 162) 0 0) 1 0 := by rw [← hI3, va_up_self]
          generalize hI4 : va_up I3 163 (upd (I3 163) k (nI l)) = I4
          have f4 : ∀ x, x ≠ 163 → I4 x = I3 x := fun x hx => by rw [← hI4, va_up_ne _ _ hx]
          have f4a : I4 163 = upd (I3 163) k (nI l) := by rw [← hI4, va_up_self]
          generalize hI5 : va_up I4 164 (upd (I4 164) k (nI m)) = I5
          have f5 : ∀ x, x ≠ 164 → I5 x = I4 x := fun x hx => by rw [← hI5, va_up_ne _ _ hx]
          have f5a : I5 164 = upd (I4 164) k (nI m) := by rw [← hI5, va_up_self]
          obtain ⟨I6, e1, e2, e3, e4⟩ := m_row_L (D := D) (K := K) (n := n) (Z := Z) hk (nI l) (nI m) (fun y39 h38 => some (nI m, h38)) 40 2000 0 I5 (by omega) (by omega)
          rw [show nI 0 = (0 : Int32) by decide] at e1
          refine ⟨nI m, enc I2 D K n Z, I6, D, K, n, ec, ?_, ?_⟩
          · simp only [f_X12_row, p162_0, bA_s, m_isRow, if_pos hx, b2_s, if_neg one0, hin, if_pos hy, if_pos c40, p162_1, va_up_self, bx_uu, if_pos c0', r162_2, hI3, ast_n s_163 k _ hk (by decide), hI4, r162_3, ast_n s_164 k _ hk (by decide), hI5, e1]
          · have q : ∀ x, x ≠ 165 → x ≠ 164 → x ≠ 163 → x ≠ 162 → x ≠ 0 → x ≠ 30 + 2 * k → x ≠ 31 + 2 * k → I6 x = I x := fun x a b c d e f g => by rw [e2 x a, f5 x b, f4 x c, f3 x d, f2 x e, g2 x f g]
            have q163 : I6 163 = upd (I 163) k (nI l) := by rw [e2 163 (by decide), f5 163 (by decide), f4a, f3 163 (by decide), f2 163 (by decide), g2 163 (by omega) (by omega)]
            have q164 : I6 164 = upd (I 164) k (nI m) := by rw [e2 164 (by decide), f5a, f4 164 (by decide), f3 164 (by decide), f2 164 (by decide), g2 164 (by omega) (by omega)]
            have q162 : I6 162 = upd (upd (I 162) 0 0) 1 0 := by rw [e2 162 (by decide), f5 162 (by decide), f4 162 (by decide), f3a, f2 162 (by decide), g2 162 (by omega) (by omega)]
            have q0 : I6 0 = upd (I 0) 15 0 := by rw [e2 0 (by decide), f5 0 (by decide), f4 0 (by decide), f3 0 (by decide), f20, g2 0 (by omega) (by omega)]
            have qo : ∀ i, (i < 40 * k ∨ 40 * k + 40 ≤ i) → I6 165 i = I 165 i := fun i hi => by rw [e3 i (by omega), f5 165 (by decide), f4 165 (by decide), f3 165 (by decide), f2 165 (by decide), g2 165 (by omega) (by omega)]
            have qr : ∀ x, x = 30 + 2 * k ∨ x = 31 + 2 * k → I6 x = I1 x := fun x hx => by rw [e2 x (by omega), f5 x (by omega), f4 x (by omega), f3 x (by omega), f2 x (by omega)]
            refine h.rows (fun x a b c => q x (by omega) (by omega) (by omega) (by omega) (by omega) (by omega) (by omega)) (fun j hj => by rw [q0, pk_un hj]) (fun j a b => by rw [q162, pk_un b, pk_un a]) (by rw [q0, q162, pk_us, pk_us]) (fun i hi => ?_)
            by_cases e : i = k
            · subst e
              right
              refine ⟨l, m, by omega, by omega, by rw [q163, pk_us], by rw [qr _ (Or.inl rfl)]; exact g3, by rw [q164, pk_us], by rw [qr _ (Or.inl rfl)]; exact g4, fun j hj => ?_⟩
              rw [qr _ (Or.inr rfl), g5 j hj, e4 j (by omega) (by omega)]
            · rw [q163, q164, pk_un e, pk_un e, q (30 + 2 * i) (by omega) (by omega) (by omega) (by omega) (by omega) (by omega) (by omega), q (31 + 2 * i) (by omega) (by omega) (by omega) (by omega) (by omega) (by omega) (by omega)]
              rcases h.1 i hi with w | ⟨l', m', w1, w2, w3, w4, w5, w6, w7⟩
              · exact Or.inl w
              · exact Or.inr ⟨l', m', w1, w2, w3, w4, w5, w6, fun j hj => by rw [qo _ (by omega)]; exact w7 j hj⟩
        · refine ⟨-1000010 - 4, enc (va_up I 0 (upd (I 0) 15 4)) D K n Z, stI I 4, D, K, n, ?_, ?_, h.told 4⟩
          · simp only [f_X11_row, c_lacksRow, if_pos hx, b2_s, if_true, if_neg y0, if_neg y2, if_pos hz, if_neg hz0, c0, bA_s, f_X11_found, p0_15]
          · simp only [f_X12_row, p162_0, bA_s, m_isRow, if_pos hx, b2_s, if_neg one0, hin, if_pos hy, if_pos hz, p162_1, va_up_self, bx_uu, if_neg hz0, c162, f_X12_finding, va_up_ne _ _ (show 162 ≠ 0 by decide), stI_0]
      · refine ⟨-1000001, enc I D K n Z, _, D, K, n, ?_, ?_, h.thrown⟩
        · simp only [f_X11_row, c_lacksRow, if_pos hx, b2_s, if_true, if_neg y0, if_neg y2, if_neg hz]
        · simp only [f_X12_row, p162_0, bA_s, m_isRow, if_pos hx, b2_s, if_neg one0, hin, if_pos hy, if_neg hz]
    · refine ⟨-1000001, enc I D K n Z, _, D, K, n, ?_, ?_, h.thrown⟩
      · by_cases y0 : y < 0
        · simp only [f_X11_row, c_lacksRow, if_pos hx, b2_s, if_true, if_pos y0]
        · have y0' := fa_of_nlt y0
          rw [fa_le, i32z] at y0'
          have y2 : (2 : Int32) < y := by rw [fa_lt, show (2 : Int32).toInt = 2 by decide]; omega
          simp only [f_X11_row, c_lacksRow, if_pos hx, b2_s, if_true, if_neg y0, if_pos y2]
      · simp only [f_X12_row, p162_0, bA_s, m_isRow, if_pos hx, b2_s, if_neg one0, hin, if_neg hy, if_true]
  · refine ⟨-1000001, enc I D K n Z, _, D, K, n, ?_, ?_, h.thrown⟩
    · simp only [f_X11_row, c_lacksRow, if_neg hx, b2_s, if_neg one0]
    · simp only [f_X12_row, m_isRow, if_neg hx, b2_s, if_true, p162_0, bA_s]
set_option maxRecDepth 100000 in
set_option maxHeartbeats 4000000 in
theorem k_set (h : Inv I D K n N) (x y z : Int32) : GD Z N (enc I D K n Z) (fun h => f_X11_set h 0 x y z) (fun h => f_X12_set h 162 x y z) := by
  by_cases hx : 0 ≤ x.toInt ∧ x.toInt < 8
  · obtain ⟨k, hk, rfl⟩ := (ix_in (m := 8) (by decide)).mp hx
    have hD := h.2.2.2.2.2.1.1 k hk
    rcases row_cases h.1 k hk with ⟨q1, q2, q3⟩ | ⟨l, m, q1, q2, q3, q4, q5, q6, q7, q8, q9⟩
    · refine ⟨-1000010 - 1, enc (va_up I 0 (upd (I 0) 15 1)) D K n Z, stI I 1, D, K, n, ?_, ?_, h.told 1⟩
      · simp only [f_X11_set, c_lacksRow, if_pos hx, b2_s, if_true, r0_0, bA_s, aldn_e s_1 k hk (by decide), hD, isC_e (s_R hk), c_isMissing hk, if_neg q2, if_neg one0, c0, f_X11_found, p0_15]
      · simp only [f_X12_set, m_isRow, if_pos hx, b2_s, if_neg one0, p162_0, bA_s, p162_1, r162_2, ald_n s_163 k hk (by decide), va_up_ne _ _ (show 163 ≠ 162 by decide), va_up_ne _ _ (show 163 ≠ 0 by decide), va_up_ne _ _ (show 162 ≠ 0 by decide), if_neg q1, c162, f_X12_finding, va_up_self, bx_uu, stI_0]
    · have ho : (0 ≤ y.toInt ∧ 0 ≤ (1 : Int32).toInt ∧ y.toInt + (1 : Int32).toInt ≤ (m : Int)) = (0 ≤ y.toInt ∧ y.toInt < (m : Int)) := by
        rw [show (1 : Int32).toInt = 1 by decide, eq_iff_iff]; omega
      by_cases hy : 0 ≤ y.toInt ∧ y.toInt < (m : Int)
      · obtain ⟨i, hi, rfl⟩ := (ix_in (m := m) (by omega)).mp hy
        obtain ⟨v, hv1, hv2⟩ : ∃ v, (bA (if nI l = 0 then some z.toInt8.toInt32 else (if nI l = (1 : Int32) then some z.toInt16.toInt32 else some z)) fun j => some j) = some v ∧ (if nI l = 0 then some z.toInt8.toInt32 else (if nI l = (1 : Int32) then some z.toInt16.toInt32 else some z)) = some v := by
          by_cases a : nI l = 0
          · exact ⟨z.toInt8.toInt32, by rw [if_pos a]; rfl, by rw [if_pos a]⟩
          · by_cases b : nI l = (1 : Int32)
            · exact ⟨z.toInt16.toInt32, by rw [if_neg a, if_pos b]; rfl, by rw [if_neg a, if_pos b]⟩
            · exact ⟨z, by rw [if_neg a, if_neg b]; rfl, by rw [if_neg a, if_neg b]⟩
        refine ⟨v, enc (va_up (va_up I (31 + 2 * k) (upd (I (31 + 2 * k)) i v)) 0 (upd (I 0) 15 0)) D K n Z, va_up (va_up (va_up (va_up I (31 + 2 * k) (upd (I (31 + 2 * k)) i v)) 0 (upd (I 0) 15 0)) 162 (upd (upd (I 162) 0 0) 1 0)) 165 (upd (I 165) (40 * k + i) v), D, K, n, ?_, ?_, ?_⟩
        · simp only [f_X11_set, c_lacksRow, if_pos hx, b2_s, if_true, r0_0, bA_s, aldn_e s_1 k hk (by decide), hD, isC_e (s_R hk), c_isMissing hk, q4, if_pos q7, c_holds hk q2 q6, ho, if_pos hy, if_neg one0, f_X8_put, gI_e (s_R hk) 1 rfl, hv2, gN_e (s_R hk) 0 rfl, ast_n (s_R1 hk) i _ (show i < 40 by omega) (by decide), c0, f_X11_well, p0_15, va_up_ne _ _ (show 0 ≠ 31 + 2 * k by omega)]
        · simp only [f_X12_set, m_isRow, if_pos hx, b2_s, if_neg one0, p162_0, bA_s, p162_1, r162_2, r162_3, r162_4, ald_n s_163 k hk (by decide), ald_n s_164 k hk (by decide), va_up_ne _ _ (show 163 ≠ 162 by decide), va_up_ne _ _ (show 163 ≠ 0 by decide), va_up_ne _ _ (show 163 ≠ 31 + 2 * k by omega), va_up_ne _ _ (show 164 ≠ 162 by decide), va_up_ne _ _ (show 164 ≠ 0 by decide), va_up_ne _ _ (show 164 ≠ 31 + 2 * k by omega), va_up_ne _ _ (show 165 ≠ 162 by decide), va_up_ne _ _ (show 165 ≠ 0 by decide), va_up_ne _ _ (show 165 ≠ 31 + 2 * k by omega), va_up_ne _ _ (show 162 ≠ 31 + 2 * k by omega), va_up_ne _ _ (show 162 ≠ 0 by decide), va_up_self, bx_uu, q3, if_pos q7, q5, m_inN _ _ m (show m < 2 ^ 30 by omega), if_pos hy, hv2, show (40 : Int32) = nI 40 from rfl, pk_mul, nI_add, ast_n s_165 (40 * k + i) _ (show 40 * k + i < 320 by omega) (by decide), ald_n s_165 (40 * k + i) (show 40 * k + i < 320 by omega) (by decide), pk_us]
        · refine h.rows (fun x a b c => ?_) (fun j hj => ?_) (fun j a b => ?_) ?_ (fun i2 hi2 => ?_)
          · rw [va_up_ne _ _ (by omega), va_up_ne _ _ (by omega), va_up_ne _ _ (by omega), va_up_ne _ _ (by omega)]
          · rw [va_up_ne _ _ (by omega), va_up_ne _ _ (by omega), va_up_self, pk_un hj]
          · rw [va_up_ne _ _ (by omega), va_up_self, pk_un b, pk_un a]
          · rw [va_up_ne _ _ (by omega), va_up_ne _ _ (by omega), va_up_self, pk_us, va_up_ne _ _ (by omega), va_up_self, pk_us]
          · have f : ∀ x, x ≠ 165 → x ≠ 162 → x ≠ 0 → x ≠ 31 + 2 * k → (va_up (va_up (va_up (va_up I (31 + 2 * k) (upd (I (31 + 2 * k)) i v)) 0 (upd (I 0) 15 0)) 162 (upd (upd (I 162) 0 0) 1 0)) 165 (upd (I 165) (40 * k + i) v)) x = I x := fun x a b c d => by rw [va_up_ne _ _ a, va_up_ne _ _ b, va_up_ne _ _ c, va_up_ne _ _ d]
            rw [f 163 (by omega) (by omega) (by omega) (by omega), f 164 (by omega) (by omega) (by omega) (by omega), f (30 + 2 * i2) (by omega) (by omega) (by omega) (by omega), va_up_self]
            rcases h.1 i2 hi2 with w | ⟨l', m', w1, w2, w3, w4, w5, w6, w7⟩
            · exact Or.inl w
            · refine Or.inr ⟨l', m', w1, w2, w3, w4, w5, w6, fun j hj => ?_⟩
              by_cases e : i2 = k
              · subst e
                rw [va_up_ne _ _ (by omega), va_up_ne _ _ (by omega), va_up_ne _ _ (by omega), va_up_self]
                by_cases e2 : j = i
                · subst e2; rw [pk_us, pk_us]
                · rw [pk_un e2, pk_un (by omega)]; exact w7 j hj
              · rw [f _ (by omega) (by omega) (by omega) (by omega), pk_un (by omega)]; exact w7 j hj
      · refine ⟨-1000010 - 2, enc (va_up I 0 (upd (I 0) 15 2)) D K n Z, stI I 2, D, K, n, ?_, ?_, h.told 2⟩
        · simp only [f_X11_set, c_lacksRow, if_pos hx, b2_s, if_true, r0_0, bA_s, aldn_e s_1 k hk (by decide), hD, isC_e (s_R hk), c_isMissing hk, q4, if_pos q7, c_holds hk q2 q6, ho, if_neg hy, c0, f_X11_found, p0_15]
        · simp only [f_X12_set, m_isRow, if_pos hx, b2_s, if_neg one0, p162_0, bA_s, p162_1, r162_2, r162_3, ald_n s_163 k hk (by decide), ald_n s_164 k hk (by decide), va_up_ne _ _ (show 163 ≠ 162 by decide), va_up_ne _ _ (show 163 ≠ 0 by decide), va_up_ne _ _ (show 164 ≠ 162 by decide), va_up_ne _ _ (show 164 ≠ 0 by decide), va_up_ne _ _ (show 162 ≠ 0 by decide), va_up_self, bx_uu, q3, if_pos q7, q5, m_inN _ _ m (show m < 2 ^ 30 by omega), if_neg hy, if_true, c162, f_X12_finding, stI_0]
  · refine ⟨-1000001, enc I D K n Z, _, D, K, n, ?_, ?_, h.thrown⟩
    · simp only [f_X11_set, c_lacksRow, if_neg hx, b2_s, if_neg one0]
    · simp only [f_X12_set, m_isRow, if_neg hx, b2_s, if_true, p162_0, bA_s]
end RowCalls2
