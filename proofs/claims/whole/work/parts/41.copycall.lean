/-! THE CALL copy -/
def cpd (g : Nat → Int32) (S T c : Nat) : Nat → Int32 := fun x => if T ≤ x ∧ x < T + c then g (S + (x - T)) else g x
section CopyCall
variable {I I' : Nat → Nat → Int32} {D : Nat → Nat → Option Nat} {K : Nat → Nat} {n N : Nat} {Z : Nat → Cl}
theorem m_cp_up {a b i j c : Nat} (hS : 40 * a + i + c ≤ 320) (hT : 40 * b + j + c ≤ 320) (hc : 40 * b + j ≤ 40 * a + i ∨ 40 * a + i + c ≤ 40 * b + j) (g : Nat → Int32) {β : Type} (kk : Int32 → Hp → Option β) : ∀ (d fuel t : Nat) (I : Nat → Nat → Int32), t + d = c → d < fuel → (∀ x, I 165 x = cpd g (40 * a + i) (40 * b + j) t x) → ∃ I', f_X12_copy_L143 kk 162 (nI a) (nI i) (nI b) (nI j) (nI c) (1 : Int32) fuel (enc I D K n Z) (nI t) = kk (nI c) (enc I' D K n Z) ∧ (∀ x, x ≠ 165 → I' x = I x) ∧ (∀ x, I' 165 x = cpd g (40 * a + i) (40 * b + j) c x) := by
  intro d
  induction d with
  | zero =>
    intro fuel t I ht hf hg
    obtain ⟨f, rfl⟩ : ∃ f, fuel = f + 1 := ⟨fuel - 1, by omega⟩
    have e : t = c := by omega
    subst e
    exact ⟨I, by rw [f_X12_copy_L143, if_pos (nI_le (Nat.le_refl _) (by omega))], fun _ _ => rfl, hg⟩
  | succ d ih =>
    intro fuel t I ht hf hg
    obtain ⟨f, rfl⟩ : ∃ f, fuel = f + 1 := ⟨fuel - 1, by omega⟩
    rw [f_X12_copy_L143, if_neg (nI_ge (by omega) (by omega)), if_neg one0]
    simp only [bA_s, r162_4, show (40 : Int32) = nI 40 from rfl, pk_mul, nI_add, ald_n s_165 (40 * a + i + t) (show 40 * a + i + t < 320 by omega) (by decide), ast_n s_165 (40 * b + j + t) _ (show 40 * b + j + t < 320 by omega) (by decide), z_i2]
    obtain ⟨I', g1, g2, g3⟩ := ih f (t + 1) (va_up I 165 (upd (I 165) (40 * b + j + t) (I 165 (40 * a + i + t)))) (by omega) (by omega) (fun x => by
      rw [va_up_self, hg]
      by_cases e : x = 40 * b + j + t
      · subst e
        rw [pk_us]
        unfold cpd
        rw [if_neg (by omega), if_pos (by omega)]
        congr 1; omega
      · rw [pk_un e, hg]
        unfold cpd
        by_cases q : 40 * b + j ≤ x ∧ x < 40 * b + j + t
        · rw [if_pos q, if_pos (by omega)]
        · rw [if_neg q, if_neg (by omega)])
    exact ⟨I', g1, fun x hx => by rw [g2 x hx, va_up_ne _ _ hx], g3⟩
def cpe (g : Nat → Int32) (S T c t : Nat) : Nat → Int32 := fun x => if T + (c - t) ≤ x ∧ x < T + c then g (S + (x - T)) else g x
theorem m_cp_dn {a b i j c : Nat} (hS : 40 * a + i + c ≤ 320) (hT : 40 * b + j + c ≤ 320) (hc : 40 * a + i ≤ 40 * b + j ∨ 40 * b + j + c ≤ 40 * a + i) (g : Nat → Int32) {β : Type} (kk : Int32 → Hp → Option β) : ∀ (d fuel t : Nat) (I : Nat → Nat → Int32), t + d = c → d < fuel → (∀ x, I 165 x = cpe g (40 * a + i) (40 * b + j) c t x) → ∃ I', f_X12_copy_L143 kk 162 (nI a) (nI i) (nI b) (nI j) (nI c) (0 : Int32) fuel (enc I D K n Z) (nI t) = kk (nI c) (enc I' D K n Z) ∧ (∀ x, x ≠ 165 → I' x = I x) ∧ (∀ x, I' 165 x = cpd g (40 * a + i) (40 * b + j) c x) := by
  intro d
  induction d with
  | zero =>
    intro fuel t I ht hf hg
    obtain ⟨f, rfl⟩ : ∃ f, fuel = f + 1 := ⟨fuel - 1, by omega⟩
    have e : t = c := by omega
    subst e
    refine ⟨I, by rw [f_X12_copy_L143, if_pos (nI_le (Nat.le_refl _) (by omega))], fun _ _ => rfl, fun x => ?_⟩
    rw [hg]
    unfold cpe cpd
    rw [Nat.sub_self, Nat.add_zero]
  | succ d ih =>
    intro fuel t I ht hf hg
    obtain ⟨f, rfl⟩ : ∃ f, fuel = f + 1 := ⟨fuel - 1, by omega⟩
    rw [f_X12_copy_L143, if_neg (nI_ge (by omega) (by omega)), if_pos rfl]
    have e1 : nI c - (1 : Int32) - nI t = nI (c - 1 - t) := by
      rw [show (1 : Int32) = nI 1 from rfl, pk_sub (show 1 ≤ c by omega), pk_sub (show t ≤ c - 1 by omega)]
    simp only [e1, bA_s, r162_4, show (40 : Int32) = nI 40 from rfl, pk_mul, nI_add, ald_n s_165 (40 * a + i + (c - 1 - t)) (show 40 * a + i + (c - 1 - t) < 320 by omega) (by decide), ast_n s_165 (40 * b + j + (c - 1 - t)) _ (show 40 * b + j + (c - 1 - t) < 320 by omega) (by decide), z_i2]
    obtain ⟨I', g1, g2, g3⟩ := ih f (t + 1) (va_up I 165 (upd (I 165) (40 * b + j + (c - 1 - t)) (I 165 (40 * a + i + (c - 1 - t))))) (by omega) (by omega) (fun x => by
      rw [va_up_self, hg]
      by_cases e : x = 40 * b + j + (c - 1 - t)
      · subst e
        rw [pk_us]
        unfold cpe
        rw [if_neg (by omega), if_pos (by omega)]
        congr 1; omega
      · rw [pk_un e, hg]
        unfold cpe
        by_cases q : 40 * b + j + (c - t) ≤ x ∧ x < 40 * b + j + c
        · rw [if_pos q, if_pos (by omega)]
        · rw [if_neg q, if_neg (by omega)])
    exact ⟨I', g1, fun x hx => by rw [g2 x hx, va_up_ne _ _ hx], g3⟩
theorem Inv.rowsN (h : Inv I D K n N) {k : Nat} (hk : k < 8) : D 1 k = some (30 + 2 * k) := h.2.2.2.2.2.1.1 k hk
set_option maxRecDepth 100000 in
set_option maxHeartbeats 8000000 in
theorem k_copy (h : Inv I D K n N) (x1 x2 x3 x4 x5 : Int32) : GD Z N (enc I D K n Z) (fun h => f_X11_copy h 0 x1 x2 x3 x4 x5) (fun h => f_X12_copy h 162 x1 x2 x3 x4 x5) := by
  by_cases hx : 0 ≤ x1.toInt ∧ x1.toInt < 8
  · by_cases hy : 0 ≤ x3.toInt ∧ x3.toInt < 8
    · obtain ⟨a, ha, rfl⟩ := (ix_in (m := 8) (by decide)).mp hx
      obtain ⟨b, hb, rfl⟩ := (ix_in (m := 8) (by decide)).mp hy
      have hDa := h.rowsN ha
      have hDb := h.rowsN hb
      have cls : ∀ f : Int32, Inv (stI I f) D K n (N + 1) := fun f => h.told f
      rcases row_cases h.1 a ha with ⟨p1, p2, p3⟩ | ⟨l, m, p1, p2, p3, p4, p5, p6, p7, p8, p9⟩
      · refine ⟨-1000010 - 1, enc (va_up I 0 (upd (I 0) 15 1)) D K n Z, stI I 1, D, K, n, ?_, ?_, h.told 1⟩
        · simp only [f_X11_copy, c_lacksRow, if_pos hx, if_pos hy, b2_s, if_true, r0_0, bA_s, aldn_e s_1 a ha (by decide), aldn_e s_1 b hb (by decide), hDa, hDb, isC_e (s_R ha), c_isMissing ha, if_neg p2, if_neg one0, c0, f_X11_found, p0_15]
        · simp only [f_X12_copy, m_isRow, if_pos hx, if_pos hy, b2_s, if_neg one0, p162_0, bA_s, p162_1, r162_2, ald_n s_163 a ha (by decide), va_up_ne _ _ (show 163 ≠ 162 by decide), va_up_ne _ _ (show 163 ≠ 0 by decide), va_up_ne _ _ (show 162 ≠ 0 by decide), if_pos p3, c162, f_X12_finding, va_up_self, bx_uu, stI_0]
      · rcases row_cases h.1 b hb with ⟨q1, q2, q3⟩ | ⟨l2, m2, q1, q2, q3, q4, q5, q6, q7, q8, q9⟩
        · refine ⟨-1000010 - 1, enc (va_up I 0 (upd (I 0) 15 1)) D K n Z, stI I 1, D, K, n, ?_, ?_, h.told 1⟩
          · simp only [f_X11_copy, c_lacksRow, if_pos hx, if_pos hy, b2_s, if_true, r0_0, bA_s, aldn_e s_1 a ha (by decide), aldn_e s_1 b hb (by decide), hDa, hDb, isC_e (s_R ha), c_isMissing ha, p4, if_pos p7, isC_e (s_R hb), c_isMissing hb, if_neg q2, if_neg one0, c0, f_X11_found, p0_15]
          · simp only [f_X12_copy, m_isRow, if_pos hx, if_pos hy, b2_s, if_neg one0, p162_0, bA_s, p162_1, r162_2, ald_n s_163 a ha (by decide), ald_n s_163 b hb (by decide), va_up_ne _ _ (show 163 ≠ 162 by decide), va_up_ne _ _ (show 163 ≠ 0 by decide), va_up_ne _ _ (show 162 ≠ 0 by decide), p3, if_neg p8, if_neg q1, c162, f_X12_finding, va_up_self, bx_uu, stI_0]
        · have el : (nI l = nI l2) = (l = l2) := z_eq (by omega) (by omega)
          by_cases hl : l = l2
          · -- places
            have mo : ∀ (V : Nat), f_X12_copy (enc (va_up I 0 (upd (I 0) 15 (nI V))) D K n Z) 162 (nI a) x2 (nI b) x4 x5 = (if x2 < 0 then some (-1000010 - 2, enc (va_up (va_up I 0 (upd (I 0) 15 (nI V))) 162 (upd (upd (I 162) 0 0) 1 2)) D K n Z) else if x4 < 0 then some (-1000010 - 2, enc (va_up (va_up I 0 (upd (I 0) 15 (nI V))) 162 (upd (upd (I 162) 0 0) 1 2)) D K n Z) else if x5 < 0 then some (-1000010 - 2, enc (va_up (va_up I 0 (upd (I 0) 15 (nI V))) 162 (upd (upd (I 162) 0 0) 1 2)) D K n Z) else if ((m : Int) < x2.toInt + x5.toInt) then some (-1000010 - 2, enc (va_up (va_up I 0 (upd (I 0) 15 (nI V))) 162 (upd (upd (I 162) 0 0) 1 2)) D K n Z) else if ¬ ((m2 : Int) < x4.toInt + x5.toInt) then bA (if x2 < x4 then some (0 : Int32) else some (1 : Int32)) fun j101 => f_X12_copy_L143 (fun y118 h117 => some (x5, h117)) 162 (nI a) x2 (nI b) x4 x5 j101 2000 (enc (va_up (va_up I 0 (upd (I 0) 15 (nI V))) 162 (upd (upd (I 162) 0 0) 1 0)) D K n Z) (0 : Int32) else some (-1000010 - 2, enc (va_up (va_up I 0 (upd (I 0) 15 (nI V))) 162 (upd (upd (I 162) 0 0) 1 2)) D K n Z)) := by
              intro V
              simp only [f_X12_copy, m_isRow, if_pos hx, if_pos hy, b2_s, if_neg one0, p162_0, bA_s, p162_1, r162_2, r162_3, ald_n s_163 a ha (by decide), ald_n s_163 b hb (by decide), ald_n s_164 a ha (by decide), ald_n s_164 b hb (by decide), va_up_ne _ _ (show 163 ≠ 162 by decide), va_up_ne _ _ (show 163 ≠ 0 by decide), va_up_ne _ _ (show 164 ≠ 162 by decide), va_up_ne _ _ (show 164 ≠ 0 by decide), va_up_ne _ _ (show 162 ≠ 0 by decide), p3, q3, p5, q5, if_neg p8, if_pos q7, el, if_pos hl, sum_gt, sum_le, toInt_nI (show m < 2 ^ 31 by omega), toInt_nI (show m2 < 2 ^ 31 by omega), c162, f_X12_finding, va_up_self, bx_uu, fa_upd_twice]
            have cl0 : f_X11_copy (enc I D K n Z) 0 (nI a) x2 (nI b) x4 x5 = (if (if 0 ≤ x2.toInt ∧ 0 ≤ x5.toInt ∧ x2.toInt + x5.toInt ≤ (m : Int) then (1 : Int32) else 0) = 0 then some (-1000010 - 2, enc (va_up I 0 (upd (I 0) 15 2)) D K n Z) else if (if 0 ≤ x4.toInt ∧ 0 ≤ x5.toInt ∧ x4.toInt + x5.toInt ≤ (m2 : Int) then (1 : Int32) else 0) = 0 then some (-1000010 - 2, enc (va_up I 0 (upd (I 0) 15 2)) D K n Z) else bA (acpy (enc I D K n Z) (31 + 2 * a) x2 (31 + 2 * b) x4 x5) fun h94 => bA (isC h94 0 10) fun u102 => b2 (f_X11_well h94 0 x5) fun r98 h96 => some (r98, h96)) := by
              simp only [f_X11_copy, c_lacksRow, if_pos hx, if_pos hy, b2_s, if_true, r0_0, bA_s, aldn_e s_1 a ha (by decide), aldn_e s_1 b hb (by decide), hDa, hDb, isC_e (s_R ha), c_isMissing ha, p4, if_pos p7, isC_e (s_R hb), c_isMissing hb, q4, if_pos q7, gI_e (s_R ha) 1 rfl, gI_e (s_R hb) 1 rfl, el, if_pos hl, c_holds ha p2 p6, c_holds hb q2 q6, gN_e (s_R ha) 0 rfl, gN_e (s_R hb) 0 rfl, c0, f_X11_found, p0_15]
            by_cases g1 : 0 ≤ x2.toInt ∧ 0 ≤ x5.toInt ∧ x2.toInt + x5.toInt ≤ (m : Int)
            · by_cases g2 : 0 ≤ x4.toInt ∧ 0 ≤ x5.toInt ∧ x4.toInt + x5.toInt ≤ (m2 : Int)
              · obtain ⟨i, hi, rfl⟩ := (ix_in (x := x2) (m := 41) (by decide)).mp ⟨g1.1, by omega⟩
                obtain ⟨j, hj, rfl⟩ := (ix_in (x := x4) (m := 41) (by decide)).mp ⟨g2.1, by omega⟩
                obtain ⟨c, hc, rfl⟩ := (ix_in (x := x5) (m := 41) (by decide)).mp ⟨g1.2.1, by omega⟩
                have ti : (nI i).toInt = (i : Int) := toInt_nI (by omega)
                have tj : (nI j).toInt = (j : Int) := toInt_nI (by omega)
                have tc : (nI c).toInt = (c : Int) := toInt_nI (by omega)
                have hic : i + c ≤ m := by rw [ti, tc] at g1; omega
                have hjc : j + c ≤ m2 := by rw [tj, tc] at g2; omega
                have ec : f_X11_copy (enc I D K n Z) 0 (nI a) (nI i) (nI b) (nI j) (nI c) = some (nI c, enc (va_up (va_up I (31 + 2 * b) (va_cpy (I (31 + 2 * a)) (I (31 + 2 * b)) i j c)) 0 (upd (I 0) 15 0)) D K n Z) := by
                  rw [cl0, if_pos g1, if_pos g2, if_neg one0, if_neg one0, acpy_n (s_R1 ha) (s_R1 hb) (by omega) (by omega) (by decide) (by decide)]
                  simp only [bA_s, c0, f_X11_well, p0_15, b2_s, va_up_ne _ _ (show 0 ≠ 31 + 2 * b by omega)]
                generalize hI1 : va_up (va_up I (31 + 2 * b) (va_cpy (I (31 + 2 * a)) (I (31 + 2 * b)) i j c)) 0 (upd (I 0) 15 0) = I1 at ec
                have f1 : ∀ x, x ≠ 31 + 2 * b → x ≠ 0 → I1 x = I x := fun x h1 h2 => by rw [← hI1, va_up_ne _ _ h2, va_up_ne _ _ h1]
                have f1a : I1 0 = upd (I 0) 15 0 := by rw [← hI1, va_up_self]
                have f1b : I1 (31 + 2 * b) = va_cpy (I (31 + 2 * a)) (I (31 + 2 * b)) i j c := by rw [← hI1, va_up_ne _ _ (by omega), va_up_self]
                generalize hI2 : va_up I1 162 (upd (upd (I 162) 0 0) 1 0) = I2
                have f2 : ∀ x, x ≠ 162 → I2 x = I1 x := fun x hx => by rw [← hI2, va_up_ne _ _ hx]
                have f2a : I2 162 = upd (upd (I 162) 0 0) 1 0 := by rw [← hI2, va_up_self]
                have f265 : I2 165 = I 165 := by rw [f2 165 (by decide), f1 165 (by omega) (by decide)]
                have em : f_X12_copy (enc I1 D K n Z) 162 (nI a) (nI i) (nI b) (nI j) (nI c) = bA (if nI i < nI j then some (0 : Int32) else some (1 : Int32)) fun j101 => f_X12_copy_L143 (fun y118 h117 => some (nI c, h117)) 162 (nI a) (nI i) (nI b) (nI j) (nI c) j101 2000 (enc I2 D K n Z) (0 : Int32) := by
                  simp only [f_X12_copy, m_isRow, if_pos hx, if_pos hy, b2_s, if_neg one0, p162_0, bA_s, p162_1, r162_2, r162_3, ald_n s_163 a ha (by decide), ald_n s_163 b hb (by decide), ald_n s_164 a ha (by decide), ald_n s_164 b hb (by decide), va_up_ne _ _ (show 163 ≠ 162 by decide), va_up_ne _ _ (show 164 ≠ 162 by decide), f2 163 (by decide), f2 164 (by decide), f1 163 (by omega) (by decide), f1 164 (by omega) (by decide), f1 162 (by omega) (by decide), p3, q3, p5, q5, if_neg p8, if_pos q7, el, if_pos hl, sum_gt, sum_le, toInt_nI (show m < 2 ^ 31 by omega), toInt_nI (show m2 < 2 ^ 31 by omega), ti, tj, tc, va_up_self, bx_uu, hI2, if_neg (nI_pos (show i < 2 ^ 31 by omega)), if_neg (nI_pos (show j < 2 ^ 31 by omega)), if_neg (nI_pos (show c < 2 ^ 31 by omega)), if_neg (show ¬ ((m : Int) < (i : Int) + (c : Int)) by omega), if_pos (show ¬ ((m2 : Int) < (j : Int) + (c : Int)) by omega)]
                have fin : ∃ I3, f_X12_copy (enc I1 D K n Z) 162 (nI a) (nI i) (nI b) (nI j) (nI c) = some (nI c, enc I3 D K n Z) ∧ (∀ x, x ≠ 165 → I3 x = I2 x) ∧ (∀ x, I3 165 x = cpd (I 165) (40 * a + i) (40 * b + j) c x) := by
                  rw [em]
                  by_cases hij : i < j
                  · simp only [z_lt (show i < 2 ^ 31 by omega) (show j < 2 ^ 31 by omega), if_pos hij, bA_s]
                    have := m_cp_dn (D := D) (K := K) (n := n) (Z := Z) (a := a) (b := b) (i := i) (j := j) (c := c) (by omega) (by omega) (by
                      rcases Nat.lt_trichotomy a b with e | e | e <;> omega) (I 165) (fun y118 h117 => some (nI c, h117)) c 2000 0 I2 (by omega) (by omega) (fun x => by rw [f265]; unfold cpe; rw [if_neg (by omega)])
                    rw [show nI 0 = (0 : Int32) by decide] at this
                    exact this
                  · simp only [z_lt (show i < 2 ^ 31 by omega) (show j < 2 ^ 31 by omega), if_neg hij, bA_s]
                    have := m_cp_up (D := D) (K := K) (n := n) (Z := Z) (a := a) (b := b) (i := i) (j := j) (c := c) (by omega) (by omega) (by
                      rcases Nat.lt_trichotomy a b with e | e | e <;> omega) (I 165) (fun y118 h117 => some (nI c, h117)) c 2000 0 I2 (by omega) (by omega) (fun x => by rw [f265]; unfold cpd; rw [if_neg (by omega)])
                    rw [show nI 0 = (0 : Int32) by decide] at this
                    exact this
                obtain ⟨I3, e1, e2, e3⟩ := fin
                refine ⟨nI c, enc I1 D K n Z, I3, D, K, n, ec, e1, ?_⟩
                have q : ∀ x, x ≠ 165 → x ≠ 162 → x ≠ 31 + 2 * b → x ≠ 0 → I3 x = I x := fun x h1 h2 h3 h4 => by rw [e2 x h1, f2 x h2, f1 x h3 h4]
                have q0 : I3 0 = upd (I 0) 15 0 := by rw [e2 0 (by decide), f2 0 (by decide), f1a]
                have q162 : I3 162 = upd (upd (I 162) 0 0) 1 0 := by rw [e2 162 (by decide), f2a]
                have qb : I3 (31 + 2 * b) = va_cpy (I (31 + 2 * a)) (I (31 + 2 * b)) i j c := by rw [e2 _ (by omega), f2 _ (by omega), f1b]
                refine h.rows (fun x u v w => q x (by omega) (by omega) (by omega) (by omega)) (fun j hj => by rw [q0, pk_un hj]) (fun j u v => by rw [q162, pk_un v, pk_un u]) (by rw [q0, q162, pk_us, pk_us]) (fun i2 hi2 => ?_)
                rw [q 163 (by omega) (by omega) (by omega) (by omega), q 164 (by omega) (by omega) (by omega) (by omega), q (30 + 2 * i2) (by omega) (by omega) (by omega) (by omega)]
                rcases h.1 i2 hi2 with w | ⟨l', m', w1, w2, w3, w4, w5, w6, w7⟩
                · exact Or.inl w
                · refine Or.inr ⟨l', m', w1, w2, w3, w4, w5, w6, fun t ht => ?_⟩
                  rw [e3]
                  by_cases e : i2 = b
                  · subst e
                    rw [qb]
                    unfold va_cpy cpd
                    by_cases z : j ≤ t ∧ t < j + c
                    · rw [if_pos z, if_pos (by omega), p9 _ (by omega)]
                      congr 1; omega
                    · rw [if_neg z, if_neg (by omega)]; exact w7 t ht
                  · rw [q _ (by omega) (by omega) (by omega) (by omega)]
                    unfold cpd
                    rw [if_neg (by omega)]; exact w7 t ht
              · refine ⟨-1000010 - 2, enc (va_up I 0 (upd (I 0) 15 2)) D K n Z, stI I 2, D, K, n, ?_, ?_, h.told 2⟩
                · show f_X11_copy _ _ _ _ _ _ _ = _
                  rw [cl0, if_pos g1, if_neg g2, if_neg one0, if_pos rfl]
                · show f_X12_copy _ _ _ _ _ _ _ = _
                  have := mo 2
                  rw [show nI 2 = (2 : Int32) by decide] at this
                  rw [this]
                  have c2 : ¬ x2 < 0 := by rw [fa_lt, i32z]; omega
                  have c5 : ¬ x5 < 0 := by rw [fa_lt, i32z]; omega
                  rw [if_neg c2]
                  by_cases c4 : x4 < 0
                  · rw [if_pos c4]; rfl
                  · have c4' := fa_of_nlt c4
                    rw [fa_le, i32z] at c4'
                    rw [if_neg c4, if_neg c5, if_neg (by omega), if_neg (by omega)]; rfl
            · refine ⟨-1000010 - 2, enc (va_up I 0 (upd (I 0) 15 2)) D K n Z, stI I 2, D, K, n, ?_, ?_, h.told 2⟩
              · show f_X11_copy _ _ _ _ _ _ _ = _
                rw [cl0, if_neg g1, if_pos rfl]
              · show f_X12_copy _ _ _ _ _ _ _ = _
                have := mo 2
                rw [show nI 2 = (2 : Int32) by decide] at this
                rw [this]
                by_cases c2 : x2 < 0
                · rw [if_pos c2]; rfl
                · have c2' := fa_of_nlt c2
                  rw [fa_le, i32z] at c2'
                  rw [if_neg c2]
                  by_cases c4 : x4 < 0
                  · rw [if_pos c4]; rfl
                  · rw [if_neg c4]
                    by_cases c5 : x5 < 0
                    · rw [if_pos c5]; rfl
                    · have c5' := fa_of_nlt c5
                      rw [fa_le, i32z] at c5'
                      rw [if_neg c5, if_pos (by omega)]; rfl
          · refine ⟨-1000010 - 5, enc (va_up I 0 (upd (I 0) 15 5)) D K n Z, stI I 5, D, K, n, ?_, ?_, h.told 5⟩
            · simp only [f_X11_copy, c_lacksRow, if_pos hx, if_pos hy, b2_s, if_true, r0_0, bA_s, aldn_e s_1 a ha (by decide), aldn_e s_1 b hb (by decide), hDa, hDb, isC_e (s_R ha), c_isMissing ha, p4, if_pos p7, isC_e (s_R hb), c_isMissing hb, q4, if_pos q7, gI_e (s_R ha) 1 rfl, gI_e (s_R hb) 1 rfl, el, if_neg hl, c0, f_X11_found, p0_15]
            · simp only [f_X12_copy, m_isRow, if_pos hx, if_pos hy, b2_s, if_neg one0, p162_0, bA_s, p162_1, r162_2, ald_n s_163 a ha (by decide), ald_n s_163 b hb (by decide), va_up_ne _ _ (show 163 ≠ 162 by decide), va_up_ne _ _ (show 163 ≠ 0 by decide), va_up_ne _ _ (show 162 ≠ 0 by decide), p3, q3, if_neg p8, if_pos q7, el, if_neg hl, c162, f_X12_finding, va_up_self, bx_uu, stI_0]
    · refine ⟨-1000001, enc I D K n Z, _, D, K, n, ?_, ?_, h.thrown⟩
      · simp only [f_X11_copy, c_lacksRow, if_pos hx, if_neg hy, b2_s, if_neg one0, if_true]
      · simp only [f_X12_copy, m_isRow, if_pos hx, if_neg hy, b2_s, if_true, if_neg one0, p162_0, bA_s]
  · refine ⟨-1000001, enc I D K n Z, _, D, K, n, ?_, ?_, h.thrown⟩
    · simp only [f_X11_copy, c_lacksRow, if_neg hx, b2_s, if_neg one0]
    · simp only [f_X12_copy, m_isRow, if_neg hx, b2_s, if_true, p162_0, bA_s]
end CopyCall
