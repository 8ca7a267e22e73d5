/-! DOORS AND NUMBERS OF THE CLASS, over enc -/
theorem sh1 : ∀ j, j < 31 → (1 : Int32) <<< (nI j &&& 31) = nI (2 ^ j) := by decide +kernel
theorem sml : ∀ j, j < 32 → ((nI j &&& 31).toBitVec.smod 32).toNat = j := by decide +kernel
theorem bit_z {b k : Nat} (hb : b < 2 ^ 31) (hk : k < 31) : (((nI b >>> (nI k &&& 31)) &&& (1 : Int32)) = 0) = (b.testBit k = false) := by
  rw [pk_shrN hb _ k (sml k (by omega))]
  have e := fa_mask (b / 2 ^ k) 1
  have e1 : nI (2 ^ 1 - 1) = (1 : Int32) := by decide
  rw [e1] at e
  rw [e, Nat.testBit_eq_decide_div_mod_eq]
  have h0 : (0 : Int32) = nI 0 := by decide
  rw [h0, eq_iff_iff, nI_eq (by omega) (by decide), decide_eq_false_iff_not]
  have : b / 2 ^ k % 2 ^ 1 = b / 2 ^ k % 2 := rfl
  rw [this]
  omega
theorem bit_1 {b k : Nat} (hb : b < 2 ^ 31) (hk : k < 31) : (((nI b >>> (nI k &&& 31)) &&& (1 : Int32)) = 1) = (b.testBit k = true) := by
  rw [pk_shrN hb _ k (sml k (by omega))]
  have e := fa_mask (b / 2 ^ k) 1
  have e1 : nI (2 ^ 1 - 1) = (1 : Int32) := by decide
  rw [e1] at e
  rw [e, Nat.testBit_eq_decide_div_mod_eq]
  have h0 : (1 : Int32) = nI 1 := by decide
  rw [h0, eq_iff_iff, nI_eq (by omega) (by decide), decide_eq_true_eq]
section DoorsP
variable {I : Nat → Nat → Int32} {D : Nat → Nat → Option Nat} {K : Nat → Nat} {n q k : Nat} {Z : Nat → Cl} {r : Ro}
theorem isD5 {c : Nat} (h : isD c = true) : c = 0 ∨ c = 1 ∨ c = 3 ∨ c = 4 ∨ c = 8 := by
  simp only [isD, Bool.or_eq_true, beq_iff_eq] at h
  omega
theorem d_sort (h : DR I K n q k r) : v_X2_sort (K q) (enc I D K n Z) q = some (nI (r (14 + 5 * k)), enc I D K n Z) := by
  rw [← h.2.1]
  rcases isD5 h.1.2.2 with e | e | e | e | e <;> rw [e] <;> rfl
theorem d_gap (h : DR I K n q k r) : v_X2_gap (K q) (enc I D K n Z) q = some (nI (gapN r k), enc I D K n Z) := by
  unfold gapN
  rw [← h.2.1]
  rcases isD5 h.1.2.2 with e | e | e | e | e <;> rw [e] <;> rfl
theorem d_broken (h : DR I K n q k r) (w : Nat) (hw : w < 2 ^ 31) : v_X2_isBroken (K q) (enc I D K n Z) q (nI w) = some (if r (14 + 5 * k) = 5 ∧ ¬ w = 0 then 1 else 0, enc I D K n Z) := by
  rw [← h.2.1]
  rcases isD5 h.1.2.2 with e | e | e | e | e <;> rw [e]
  · rfl
  · rfl
  · rfl
  · rfl
  · have h0 : (0 : Int32) = nI 0 := by decide
    simp only [v_X2_isBroken, f_X9_isBroken, kd, Nat.reduceEqDiff, if_false, if_true, true_and]
    by_cases hz : w = 0
    · subst hz; rfl
    · have : ¬ nI w = 0 := by rw [h0, nI_eq hw (by decide)]; exact hz
      simp [this, hz, bA, bz]
theorem d_loud (h : DR I K n q k r) (hn : r (17 + 5 * k) ≤ 9) (hw : r (18 + 5 * k) ≤ 5000) : v_X2_loud (K q) (enc I D K n Z) q (nI (r (18 + 5 * k))) = some (nI (loudN r k), enc I D K n Z) := by
  obtain ⟨h1, h2, h3, h4, h5, h6⟩ := h
  unfold loudN
  rw [← h2]
  rcases isD5 h1.2.2 with e | e | e | e | e <;> simp only [e, v_X2_loud, f_X0_loud, f_X1_loud, f_X4_loud, f_X5_loud, kd, Nat.reduceEqDiff, if_false, if_true, gD_e h1 3 (by decide), bA_s, h6]
  · have := pk_div (a := r (17 + 5 * k)) (d := 2) (by omega) (by decide) (by decide)
    rw [show (2 : Int32) = nI 2 by decide, this]
  · rw [show (2 : Int32) = nI 2 by decide, pk_mul, nI_add]
  · rfl
  · rfl
theorem d_key (h : DR I K n q k r) (hn : r (17 + 5 * k) ≤ 9) : v_X2_keyBit (K q) (enc I D K n Z) q = some (nI (keyN r k), enc I D K n Z) := by
  obtain ⟨h1, h2, h3, h4, h5, h6⟩ := h
  unfold keyN
  rw [← h2]
  have e6 := pk_rem (a := r (17 + 5 * k)) (d := 6) (by omega) (by decide) (by decide)
  have h06 : (6 : Int32) = nI 6 := by decide
  rcases isD5 h1.2.2 with e | e | e | e | e <;> simp only [e, v_X2_keyBit, f_X2_keyBit, f_X5_keyBit, kd, Nat.reduceEqDiff, if_false, if_true, gD_e h1 3 (by decide), bA_s, h6]
  · rfl
  · rfl
  · rfl
  · rw [h06, e6, sh1 _ (by omega)]; rfl
  · rw [h06, e6, sh1 _ (by omega)]; rfl
theorem d_leads (h : DR I K n q k r) (m : Nat) (hm : m < 2 ^ 31) (h1 : r (15 + 5 * k) < 2 ^ 31) (h2 : r (16 + 5 * k) < 2 ^ 31) : v_X2_leadsFrom (K q) (enc I D K n Z) q (nI m) = some (if m = r (15 + 5 * k) ∨ m = r (16 + 5 * k) then 1 else 0, enc I D K n Z) := by
  obtain ⟨g1, g2, g3, g4, g5, g6⟩ := h
  have key : f_X2_leadsFrom (enc I D K n Z) q (nI m) = some (if m = r (15 + 5 * k) ∨ m = r (16 + 5 * k) then 1 else 0, enc I D K n Z) := by
    simp only [f_X2_leadsFrom, gD_e g1 1 (by decide), gD_e g1 2 (by decide), bA_s, g4, g5, z_eq hm h1, z_eq hm h2]
    by_cases a : m = r (15 + 5 * k) <;> by_cases b : m = r (16 + 5 * k) <;> simp [a, b, bA, bz]
  rcases isD5 g1.2.2 with e | e | e | e | e <;> simp only [e, v_X2_leadsFrom, Nat.reduceEqDiff, if_false, if_true, key]
theorem d_beyond (h : DR I K n q k r) (m : Nat) (hm : m < 2 ^ 31) (h1 : r (15 + 5 * k) < 2 ^ 31) : v_X2_beyond (K q) (enc I D K n Z) q (nI m) = some (nI (if m = r (15 + 5 * k) then r (16 + 5 * k) else r (15 + 5 * k)), enc I D K n Z) := by
  obtain ⟨g1, g2, g3, g4, g5, g6⟩ := h
  have key : f_X2_beyond (enc I D K n Z) q (nI m) = some (nI (if m = r (15 + 5 * k) then r (16 + 5 * k) else r (15 + 5 * k)), enc I D K n Z) := by
    simp only [f_X2_beyond, gD_e g1 1 (by decide), gD_e g1 2 (by decide), bA_s, g4, g5, z_eq hm h1]
    by_cases a : m = r (15 + 5 * k) <;> simp [a, bA]
  rcases isD5 g1.2.2 with e | e | e | e | e <;> simp only [e, v_X2_beyond, Nat.reduceEqDiff, if_false, if_true, key]
theorem c_add {a m l : Nat} (hN : isNu a m) (hl : I a 1 = nI l) (hm : l < m) (x : Int32) : f_X6_add (enc I D K n Z) a x = some (enc (va_up (va_up I (a + 1) (upd (I (a + 1)) l x)) a (upd (I a) 1 (nI (l + 1)))) D K n Z) := by
  have hm40 : m ≤ 17 := by rcases hN with ⟨-, rfl⟩ | ⟨-, rfl⟩ | ⟨-, rfl⟩ <;> omega
  simp only [f_X6_add, gI_e (s_N hN) 1 rfl, gN_e (s_N hN) 0 rfl, bA_s, aln_e (s_N1 hN), hl]
  rw [if_neg (nI_ge hm (by omega))]
  simp only [ast_n (s_N1 hN) l x hm (by omega), bA_s, gI_e (s_N hN) 1 rfl, pV_e (s_N hN) 1 rfl]
  have e : va_up I (a + 1) (upd (I (a + 1)) l x) a = I a := va_up_ne _ _ (by omega)
  rw [e, hl, z_i2]
theorem c_addF {a m l : Nat} (hN : isNu a m) (hl : I a 1 = nI l) (hm : m ≤ l) (hl2 : l < 2 ^ 31) (x : Int32) : f_X6_add (enc I D K n Z) a x = some (enc I D K n Z) := by
  simp only [f_X6_add, gI_e (s_N hN) 1 rfl, gN_e (s_N hN) 0 rfl, bA_s, aln_e (s_N1 hN), hl]
  rw [if_pos (nI_le hm hl2)]
  rfl
theorem c_clear {a m : Nat} (hN : isNu a m) : f_X6_clear (enc I D K n Z) a = some (enc (va_up I a (upd (I a) 1 0)) D K n Z) := by
  simp only [f_X6_clear, pV_e (s_N hN) 1 rfl, bA_s]
theorem c_at {a m l : Nat} (hN : isNu a m) (hl : I a 1 = nI l) (hm : l ≤ m) (x : Int32) : f_X6_at (enc I D K n Z) a x = some (if 0 ≤ x.toInt ∧ x.toInt < l then I (a + 1) x.toNatClampNeg else -1000000, enc I D K n Z) := by
  have hm40 : m ≤ 17 := by rcases hN with ⟨-, rfl⟩ | ⟨-, rfl⟩ | ⟨-, rfl⟩ <;> omega
  simp only [f_X6_at, gI_e (s_N hN) 1 rfl, gN_e (s_N hN) 0 rfl, bA_s, hl]
  rcases z_in (x := x) (m := l) (by omega) with ⟨j, hj, rfl⟩ | h
  · rw [toInt_nI (by omega), if_pos (show (0 : Int) ≤ (j : Int) ∧ (j : Int) < l by omega), if_neg (nI_pos (by omega)), if_neg (nI_ge hj (by omega)), ald_n (s_N1 hN) j (by omega) (by omega), nI_clamp (by omega)]
    rfl
  · have hn : ¬ (0 ≤ x.toInt ∧ x.toInt < l) := by
      rcases h with h | h
      · rw [Int32.lt_iff_toInt_lt, Int32.toInt_zero] at h; omega
      · rw [Int32.le_iff_toInt_le, nI_toInt (by omega)] at h; omega
    rw [if_neg hn]
    rcases h with h | h
    · rw [if_pos h]; rfl
    · by_cases h0 : x < 0
      · rw [if_pos h0]; rfl
      · rw [if_neg h0, if_pos h]; rfl
end DoorsP
