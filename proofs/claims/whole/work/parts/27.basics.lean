/-! NUMBERS: small lemmas -/
theorem z_in {x : Int32} {m : Nat} (hm : m < 2 ^ 31) : (∃ k, k < m ∧ x = nI k) ∨ (x < 0 ∨ nI m ≤ x) := by
  rcases pk_ix x hm with h | h | h
  · exact Or.inr (Or.inl h)
  · exact Or.inr (Or.inr h)
  · exact Or.inl h
theorem z_no {x : Int32} {m : Nat} (hm : m < 2 ^ 31) (h : ¬ ∃ k, k < m ∧ x = nI k) : x < 0 ∨ nI m ≤ x := (z_in hm).resolve_left h
theorem z_lt {k m : Nat} (hk : k < 2 ^ 31) (hm : m < 2 ^ 31) : (nI k < nI m) = (k < m) := propext (nI_ltI hk hm)
theorem z_le {k m : Nat} (hk : k < 2 ^ 31) (hm : m < 2 ^ 31) : (nI k ≤ nI m) = (k ≤ m) := propext (nI_leI hk hm)
theorem z_eq {k m : Nat} (hk : k < 2 ^ 31) (hm : m < 2 ^ 31) : (nI k = nI m) = (k = m) := propext (nI_eq hk hm)
theorem z_neg {k : Nat} (hk : k < 2 ^ 31) : (nI k < 0) = False := by
  rw [eq_iff_iff, iff_false]; exact nI_pos hk
theorem z_i2 (k : Nat) : nI k + (1 : Int32) = nI (k + 1) := nI_1 k
/-! THE REFERENCE'S in(v, low, high) -/
theorem lgc_lt (x y : Int64) : (lg_cmp x y < 0) = (x < y) := by
  unfold lg_cmp
  by_cases h : x > y
  · have : ¬ x < y := by have h' : y < x := h; rw [Int64.lt_iff_toInt_lt] at h' ⊢; omega
    simp only [h, if_true, this]; decide
  · by_cases h2 : x = y
    · have : ¬ x < y := by rw [h2, Int64.lt_iff_toInt_lt]; omega
      simp only [h, h2, if_true, if_false, this]
      subst h2
      simp only [gt_iff_lt, Int64.lt_irrefl]; decide
    · have : x < y := by
        rw [gt_iff_lt, Int64.lt_iff_toInt_lt] at h
        have h3 : x.toInt ≠ y.toInt := fun q => h2 (Int64.toInt_inj.mp q)
        rw [Int64.lt_iff_toInt_lt]; omega
      simp only [h, h2, if_false, this]; decide
theorem lgc_gt (x y : Int64) : (0 < lg_cmp x y) = (y < x) := by
  unfold lg_cmp
  by_cases h : x > y
  · have h' : y < x := h
    simp only [h, if_true, h']; decide
  · have h' : ¬ y < x := h
    by_cases h2 : x = y
    · simp only [h, h2, if_true, if_false, h']; subst h2; simp only [gt_iff_lt, Int64.lt_irrefl]; decide
    · simp only [h, h2, if_false, h']; decide
theorem m_in (h : Hp) (x y z : Int64) : f_X12_in h x y z = some (if y ≤ x ∧ x ≤ z then 1 else 0, h) := by
  have e1 : (x < y) = ¬ (y ≤ x) := by rw [Int64.lt_iff_toInt_lt, Int64.le_iff_toInt_le]; simp only [Int.not_le]
  have e2 : (z < x) = ¬ (x ≤ z) := by rw [Int64.lt_iff_toInt_lt, Int64.le_iff_toInt_le]; simp only [Int.not_le]
  simp only [f_X12_in, lgc_lt, lgc_gt, e1, e2]
  by_cases h1 : y ≤ x <;> by_cases h2 : x ≤ z <;> simp [h1, h2, bA, bz]
theorem m_in32 (h : Hp) (x y z : Int32) : f_X12_in h x.toInt64 y.toInt64 z.toInt64 = some (if y ≤ x ∧ x ≤ z then 1 else 0, h) := by
  rw [m_in]
  simp only [fa_wide_le]
theorem w64 (k : Nat) (h : k < 2 ^ 31) : (OfNat.ofNat k : Int64) = (nI k).toInt64 := by rw [nI_l h]; rfl
/-- whether x is one of 0 .. m - 1, as the reference asks it -/
theorem m_inN (h : Hp) (x : Int32) (m : Nat) (hm : m < 2 ^ 30) : f_X12_in h x.toInt64 (0 : Int64) (nI m - (1 : Int32)).toInt64 = some (if 0 ≤ x.toInt ∧ x.toInt < m then 1 else 0, h) := by
  have e : (0 : Int64) = (0 : Int32).toInt64 := by decide
  rw [e, m_in32]
  have e2 : (nI m - (1 : Int32)).toInt = (m : Int) - 1 := pk_sub_toInt hm (b := 1) (by decide)
  simp only [Int32.le_iff_toInt_le, e2, Int32.toInt_zero]
  congr 2
  by_cases h1 : 0 ≤ x.toInt ∧ x.toInt < m
  · rw [if_pos h1, if_pos (by omega)]
  · rw [if_neg h1, if_neg (by omega)]
theorem toInt_nI {k : Nat} (h : k < 2 ^ 31) : (nI k).toInt = (k : Int) := nI_toInt h
/-- of three ways to say that x is one of 0 .. m - 1 -/
theorem ix_in {x : Int32} {m : Nat} (hm : m < 2 ^ 31) : (0 ≤ x.toInt ∧ x.toInt < m) ↔ ∃ k, k < m ∧ x = nI k := by
  constructor
  · intro ⟨h1, h2⟩
    refine ⟨x.toInt.toNat, by omega, ?_⟩
    apply Int32.toInt_inj.mp
    rw [nI_toInt (by omega)]
    omega
  · rintro ⟨k, hk, rfl⟩
    rw [nI_toInt (by omega)]
    omega
/-! THE CLASS'S HOUSE: the small methods -/
section House
variable {I : Nat → Nat → Int32} {D : Nat → Nat → Option Nat} {K : Nat → Nat} {n a : Nat} {Z : Nat → Cl}
theorem c_stands (hH : isH a) : f_X3_stands (enc I D K n Z) a = some (if I a 3 ≤ 0 then 0 else 1, enc I D K n Z) := by
  simp only [f_X3_stands, gI_e (s_H hH) 3 rfl, bA_s]
  by_cases h : I a 3 ≤ 0 <;> simp [h, bA, bz]
theorem c_lacksRoom (hH : isH a) {rc : Nat} (hr : rc ≤ 8) (h3 : I a 3 = nI rc) (x : Int32) : f_X3_lacksRoom (enc I D K n Z) a x = some (if 0 ≤ x.toInt ∧ x.toInt < rc then 0 else 1, enc I D K n Z) := by
  simp only [f_X3_lacksRoom, gI_e (s_H hH) 3 rfl, bA_s, h3]
  rcases z_in (x := x) (m := rc) (by omega) with ⟨k, hk, rfl⟩ | h
  · have e8 : nI k < (8 : Int32) := (nI_ltI (b := 8) (by omega) (by decide)).mpr (by omega)
    rw [toInt_nI (by omega), if_pos (show (0 : Int) ≤ (k : Int) ∧ (k : Int) < rc by omega), if_neg (nI_pos (by omega)), if_neg (nI_ge hk (by omega)), if_pos e8]
    rfl
  · have hn : ¬ (0 ≤ x.toInt ∧ x.toInt < rc) := by
      rcases h with h | h
      · rw [Int32.lt_iff_toInt_lt, Int32.toInt_zero] at h; omega
      · rw [Int32.le_iff_toInt_le, nI_toInt (by omega)] at h; omega
    rw [if_neg hn]
    rcases h with h | h
    · rw [if_pos h]; rfl
    · by_cases h0 : x < 0
      · rw [if_pos h0]; rfl
      · rw [if_neg h0, if_pos h]; rfl
theorem c_lacksDoor (hH : isH a) {dc : Nat} (hr : dc ≤ 8) (h3 : I a 4 = nI dc) (x : Int32) : f_X3_lacksDoor (enc I D K n Z) a x = some (if 0 ≤ x.toInt ∧ x.toInt < dc then 0 else 1, enc I D K n Z) := by
  simp only [f_X3_lacksDoor, gI_e (s_H hH) 4 rfl, bA_s, h3]
  rcases z_in (x := x) (m := dc) (by omega) with ⟨k, hk, rfl⟩ | h
  · have e8 : nI k < (8 : Int32) := (nI_ltI (b := 8) (by omega) (by decide)).mpr (by omega)
    rw [toInt_nI (by omega), if_pos (show (0 : Int) ≤ (k : Int) ∧ (k : Int) < dc by omega), if_neg (nI_pos (by omega)), if_neg (nI_ge hk (by omega)), if_pos e8]
    rfl
  · have hn : ¬ (0 ≤ x.toInt ∧ x.toInt < dc) := by
      rcases h with h | h
      · rw [Int32.lt_iff_toInt_lt, Int32.toInt_zero] at h; omega
      · rw [Int32.le_iff_toInt_le, nI_toInt (by omega)] at h; omega
    rw [if_neg hn]
    rcases h with h | h
    · rw [if_pos h]; rfl
    · by_cases h0 : x < 0
      · rw [if_pos h0]; rfl
      · rw [if_neg h0, if_pos h]; rfl
theorem c_doorAt_in (hH : isH a) {dc k : Nat} (hr : dc ≤ 8) (h3 : I a 4 = nI dc) (hk : k < dc) : f_X3_doorAt (enc I D K n Z) a (nI k) = some (D (a + 3) k, enc I D K n Z) := by
  simp only [f_X3_doorAt, isC_e (s_H hH), bA_s, c_lacksDoor hH hr h3, b2_s, toInt_nI (show k < 2 ^ 31 by omega)]
  rw [if_pos (show (0 : Int) ≤ (k : Int) ∧ (k : Int) < dc by omega)]
  simp only [if_true, gN_e (s_H hH) 2 rfl, bA_s, aldq_e (s_H3 hH) k (by omega) (by decide)]
theorem c_doorAt_out (hH : isH a) {dc : Nat} (hr : dc ≤ 8) (h3 : I a 4 = nI dc) {x : Int32} (hx : ¬ (0 ≤ x.toInt ∧ x.toInt < dc)) : f_X3_doorAt (enc I D K n Z) a x = some (none, enc I D K n Z) := by
  simp only [f_X3_doorAt, isC_e (s_H hH), bA_s, c_lacksDoor hH hr h3, b2_s, if_neg hx]
  rfl
theorem c_become_L (ha : isH a) {b : Nat} (hb : isH b) (hD : ∀ k q, k < 8 → D (b + 3) k = some q → isDr K n q) (kk : Int32 → Hp → Option Hp) : ∀ (m fuel j : Nat) (D' : Nat → Nat → Option Nat), j + m = 8 → m < fuel → (∀ x, x ≠ a + 3 → D' x = D x) → (∀ k, k < 8 → D' (b + 3) k = D (b + 3) k) → (∀ k, k < j → D' (a + 3) k = D (b + 3) k) → ∃ D2, f_X3_become_L32 kk a b fuel (enc I D' K n Z) (nI j) = kk (nI 8) (enc I D2 K n Z) ∧ (∀ x, x ≠ a + 3 → D2 x = D x) ∧ (∀ k, k < 8 → D2 (a + 3) k = D (b + 3) k) := by
  intro m
  induction m with
  | zero =>
    intro fuel j D' hj hf h1 h2 h3
    obtain ⟨f, rfl⟩ : ∃ f, fuel = f + 1 := ⟨fuel - 1, by omega⟩
    have : j = 8 := by omega
    subst this
    refine ⟨D', ?_, h1, h3⟩
    rw [f_X3_become_L32, if_pos (show (8 : Int32) ≤ nI 8 by decide)]
  | succ m ih =>
    intro fuel j D' hj hf h1 h2 h3
    obtain ⟨f, rfl⟩ : ∃ f, fuel = f + 1 := ⟨fuel - 1, by omega⟩
    have e8 : ¬ (8 : Int32) ≤ nI j := nI_ge (b := 8) (by omega) (by decide)
    rw [f_X3_become_L32, if_neg e8]
    simp only [gN_e (s_H ha) 2 rfl, gN_e (s_H hb) 2 rfl, bA_s, aldq_e (s_H3 hb) j (by omega) (by decide)]
    rw [astq_e (s_H3 ha) j _ (fun q hq => hD j q (by omega) (by rw [← h2 j (by omega)]; exact hq)) (by omega) (by decide), bA_s, z_i2]
    refine ih f (j + 1) _ (by omega) (by omega) ?_ ?_ ?_
    · intro x hx
      rw [va_up_ne _ _ hx, h1 x hx]
    · intro k hk
      by_cases e : b + 3 = a + 3
      · have hab : b = a := by omega
        subst hab
        rw [va_up_self]
        by_cases hkj : k = j
        · subst hkj; rw [va_up_self]; exact h2 k hk
        · rw [va_up_ne _ _ hkj]; exact h2 k hk
      · rw [va_up_ne _ _ e]; exact h2 k hk
    · intro k hk
      rw [va_up_self]
      by_cases hkj : k = j
      · subst hkj; rw [va_up_self]; exact h2 k (by omega)
      · rw [va_up_ne _ _ hkj]; exact h3 k (by omega)
end House
