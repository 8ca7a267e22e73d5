/-! ROUTES: what is looked at ahead of an errand -/
theorem itm_eq {f g : Nat → Int32} : ∀ (c a b : Nat), (∀ j, j < c → f (a + j) = g (b + j)) → itm f a c = itm g b c
  | 0, _, _, _ => rfl
  | c + 1, a, b, h => by
    rw [itm, itm, show f a = g b from h 0 (by omega), itm_eq c (a + 1) (b + 1) (fun j hj => by rw [Nat.add_assoc, Nat.add_assoc, Nat.add_comm 1 j]; exact h (j + 1) (by omega))]
section Route
variable {I : Nat → Nat → Int32} {D : Nat → Nat → Option Nat} {K : Nat → Nat} {n N : Nat} {Z : Nat → Cl}
theorem c_bad (h : Hp) (x y : Int32) : f_X11_isBadRoute h x y = some (if (0 ≤ x.toInt ∧ x.toInt < 8) ∧ (0 ≤ y.toInt ∧ y.toInt ≤ 8) then 0 else 1, h) := by
  simp only [f_X11_isBadRoute, c_lacksRow, b2_s]
  by_cases hx : 0 ≤ x.toInt ∧ x.toInt < 8
  · simp only [if_pos hx, if_true]
    by_cases y0 : y < 0
    · have y0' := (fa_lt y 0).mp y0
      rw [i32z] at y0'
      simp only [if_pos y0, bA_s, bz1, if_neg (show ¬ ((0 ≤ x.toInt ∧ x.toInt < 8) ∧ (0 ≤ y.toInt ∧ y.toInt ≤ 8)) by omega)]
    · have y0' := fa_of_nlt y0
      rw [fa_le, i32z] at y0'
      by_cases y8 : y ≤ (8 : Int32)
      · have y8' := (fa_le y 8).mp y8
        rw [show (8 : Int32).toInt = 8 by decide] at y8'
        simp only [if_neg y0, if_pos y8, bA_s, bz0, if_pos (show ((0 ≤ x.toInt ∧ x.toInt < 8) ∧ (0 ≤ y.toInt ∧ y.toInt ≤ 8)) by omega)]
      · have y8' := (fa_lt _ y).mp (fa_of_nle y8)
        rw [show (8 : Int32).toInt = 8 by decide] at y8'
        simp only [if_neg y0, if_neg y8, bA_s, bz1, if_neg (show ¬ ((0 ≤ x.toInt ∧ x.toInt < 8) ∧ (0 ≤ y.toInt ∧ y.toInt ≤ 8)) by omega)]
  · simp only [if_neg hx, if_neg one0, bA_s, bz1, if_neg (show ¬ ((0 ≤ x.toInt ∧ x.toInt < 8) ∧ (0 ≤ y.toInt ∧ y.toInt ≤ 8)) by omega)]
theorem m_isErrand (h : Hp) (x y : Int32) : f_X12_isErrand h x y = some (if (0 ≤ x.toInt ∧ x.toInt < 8) ∧ (0 ≤ y.toInt ∧ y.toInt ≤ 8) then 1 else 0, h) := by
  have hin : ∀ h : Hp, f_X12_in h y.toInt64 (0 : Int64) (8 : Int64) = some (if (0 : Int) ≤ y.toInt ∧ y.toInt ≤ (8 : Nat) then 1 else 0, h) := fun h => in02 h y 8 (by decide) (by decide)
  simp only [f_X12_isErrand, m_isRow, b2_s]
  by_cases hx : 0 ≤ x.toInt ∧ x.toInt < 8
  · simp only [if_pos hx, if_neg one0, hin, b2_s]
    by_cases hy : (0 : Int) ≤ y.toInt ∧ y.toInt ≤ (8 : Nat)
    · simp only [if_pos hy, if_neg one0, b2_s, bz1, bA_s, if_pos (show ((0 ≤ x.toInt ∧ x.toInt < 8) ∧ (0 ≤ y.toInt ∧ y.toInt ≤ 8)) by omega)]
    · simp only [if_neg hy, if_true, b2_s, bz0, bA_s, if_neg (show ¬ ((0 ≤ x.toInt ∧ x.toInt < 8) ∧ (0 ≤ y.toInt ∧ y.toInt ≤ 8)) by omega)]
  · simp only [if_neg hx, if_true, b2_s, bz0, bA_s, if_neg (show ¬ ((0 ≤ x.toInt ∧ x.toInt < 8) ∧ (0 ≤ y.toInt ∧ y.toInt ≤ 8)) by omega)]
theorem m_rf_L {k i c : Nat} (hk : k < 8) (hi : i + c ≤ 40) (hc : c ≤ 8) {β : Type} (kk : Int32 → Hp → Option β) : ∀ (m fuel j : Nat) (I : Nat → Nat → Int32), j + m = c → m < fuel → ∃ I', f_X12_rowFound_L49 kk 162 (nI k) (nI i) (nI c) fuel (enc I D K n Z) (nI j) = kk (nI c) (enc I' D K n Z) ∧ (∀ x, x ≠ 171 → I' x = I x) ∧ (∀ t, t < j → I' 171 t = I 171 t) ∧ (∀ t, j ≤ t → t < c → I' 171 t = I 165 (40 * k + i + t)) := by
  intro m
  induction m with
  | zero =>
    intro fuel j I hj hf
    obtain ⟨f, rfl⟩ : ∃ f, fuel = f + 1 := ⟨fuel - 1, by omega⟩
    have e : j = c := by omega
    subst e
    exact ⟨I, by rw [f_X12_rowFound_L49, if_pos (nI_le (Nat.le_refl _) (by omega))], fun _ _ => rfl, fun _ _ => rfl, fun t h1 h2 => by omega⟩
  | succ m ih =>
    intro fuel j I hj hf
    obtain ⟨f, rfl⟩ : ∃ f, fuel = f + 1 := ⟨fuel - 1, by omega⟩
    rw [f_X12_rowFound_L49, if_neg (nI_ge (by omega) (by omega))]
    simp only [r162_19, r162_4, bA_s, show (40 : Int32) = nI 40 from rfl, pk_mul, nI_add, ald_n s_165 (40 * k + i + j) (show 40 * k + i + j < 320 by omega) (by decide), ast_n s_171 j _ (show j < 8 by omega) (by decide), z_i2]
    obtain ⟨I', g1, g2, g3, g4⟩ := ih f (j + 1) (va_up I 171 (upd (I 171) j (I 165 (40 * k + i + j)))) (by omega) (by omega)
    refine ⟨I', g1, ?_, ?_, ?_⟩
    · intro x hx; rw [g2 x hx, va_up_ne _ _ hx]
    · intro t ht; rw [g3 t (by omega), va_up_self, pk_un (by omega)]
    · intro t h1 h2
      by_cases e : t = j
      · subst e; rw [g3 t (by omega), va_up_self, pk_us]
      · rw [g4 t (by omega) h2, va_up_ne _ _ (by decide)]
/-- a route: lacking in both alike, or there in both alike -/
theorem route (hR : RowsI I) (hD : ∀ k, k < 8 → D 1 k = some (30 + 2 * k)) {k c : Nat} (hk : k < 8) (hc : c ≤ 8) (x : Int32) :
    (∃ f, f ≠ 0 ∧ f < 3 ∧ f_X11_lackOfRoute (enc I D K n Z) 0 (nI k) x (nI c) = some (nI f, enc I D K n Z) ∧ ∀ (J : Nat → Nat → Int32) (E : Nat → Nat → Option Nat) (L : Nat → Nat) (p : Nat), J 163 = I 163 → J 164 = I 164 → f_X12_rowFound (enc J E L p Z) 162 (nI k) x (nI c) = some (-1000010 - nI f, enc (va_up J 162 (upd (J 162) 1 (nI f))) E L p Z)) ∨
    (∃ i, x = nI i ∧ i + c ≤ 40 ∧ f_X11_lackOfRoute (enc I D K n Z) 0 (nI k) x (nI c) = some (0, enc I D K n Z) ∧ ∀ (J : Nat → Nat → Int32) (E : Nat → Nat → Option Nat) (L : Nat → Nat) (p : Nat), J 163 = I 163 → J 164 = I 164 → J 165 = I 165 → ∃ J', f_X12_rowFound (enc J E L p Z) 162 (nI k) x (nI c) = some (0, enc J' E L p Z) ∧ (∀ y, y ≠ 162 → y ≠ 171 → J' y = J y) ∧ J' 162 = upd (J 162) 1 0 ∧ (∀ t, t < c → J' 171 t = I (31 + 2 * k) (i + t))) := by
  have hx8 : 0 ≤ (nI k).toInt ∧ (nI k).toInt < 8 := by rw [toInt_nI (by omega)]; omega
  have hcT : (nI c).toInt = (c : Int) := toInt_nI (by omega)
  rcases row_cases hR k hk with ⟨q1, q2, q3⟩ | ⟨l, m, q1, q2, q3, q4, q5, q6, q7, q8, q9⟩
  · left
    refine ⟨1, by decide, by decide, ?_, fun J E L p e1 e2 => ?_⟩
    · simp only [f_X11_lackOfRoute, c_lacksRow, if_pos hx8, b2_s, if_true, r0_0, bA_s, aldn_e s_1 k hk (by decide), hD k hk, isC_e (s_R hk), c_isMissing hk, if_neg q2, if_neg one0]
      rfl
    · simp only [f_X12_rowFound, r162_2, bA_s, ald_n s_163 k hk (by decide), e1, if_neg q1, c162, f_X12_finding, p162_1, b2_s]
      rfl
  · by_cases hh : 0 ≤ x.toInt ∧ 0 ≤ (nI c).toInt ∧ x.toInt + (nI c).toInt ≤ (m : Int)
    · right
      obtain ⟨i, hi, rfl⟩ := (ix_in (x := x) (m := 41) (by decide)).mp ⟨hh.1, by omega⟩
      have hiT : (nI i).toInt = (i : Int) := toInt_nI (by omega)
      have him : i + c ≤ m := by rw [hiT, hcT] at hh; omega
      refine ⟨i, rfl, by omega, ?_, fun J E L p e1 e2 e3 => ?_⟩
      · simp only [f_X11_lackOfRoute, c_lacksRow, if_pos hx8, b2_s, if_true, r0_0, bA_s, aldn_e s_1 k hk (by decide), hD k hk, isC_e (s_R hk), c_isMissing hk, q4, if_pos q7, c_holds hk q2 q6, if_pos hh, if_neg one0]
      · obtain ⟨J', g1, g2, g3, g4⟩ := m_rf_L (D := E) (K := L) (n := p) (Z := Z) hk (show i + c ≤ 40 by omega) hc (fun y33 h32 => some ((0 : Int32), h32)) c 2000 0 (va_up J 162 (upd (J 162) 1 0)) (by omega) (by omega)
        rw [show nI 0 = (0 : Int32) by decide] at g1
        refine ⟨J', ?_, fun y a b => by rw [g2 y b, va_up_ne _ _ a], by rw [g2 162 (by decide), va_up_self], fun t ht => ?_⟩
        · have hle : ¬ (m : Int) < (i : Int) + (c : Int) := by omega
          simp only [f_X12_rowFound, r162_2, r162_3, bA_s, ald_n s_163 k hk (by decide), ald_n s_164 k hk (by decide), e1, e2, q3, if_pos q7, if_neg (nI_pos (show i < 2 ^ 31 by omega)), q5, sum_le, toInt_nI (show m < 2 ^ 31 by omega), hiT, hcT, if_pos hle, p162_1, g1]
        · rw [g4 t (by omega) ht, va_up_ne _ _ (by decide), e3, q9 (i + t) (by omega), Nat.add_assoc]
    · left
      refine ⟨2, by decide, by decide, ?_, fun J E L p e1 e2 => ?_⟩
      · simp only [f_X11_lackOfRoute, c_lacksRow, if_pos hx8, b2_s, if_true, r0_0, bA_s, aldn_e s_1 k hk (by decide), hD k hk, isC_e (s_R hk), c_isMissing hk, q4, if_pos q7, c_holds hk q2 q6, if_neg hh]
        rfl
      · simp only [f_X12_rowFound, r162_2, r162_3, bA_s, ald_n s_163 k hk (by decide), ald_n s_164 k hk (by decide), e1, e2, q3, if_pos q7, q5, sum_le, toInt_nI (show m < 2 ^ 31 by omega), hcT, c162, f_X12_finding, p162_1, b2_s]
        by_cases x0 : x < 0
        · rw [if_pos x0]; rfl
        · have x0' := fa_of_nlt x0
          rw [fa_le, i32z] at x0'
          rw [hcT] at hh
          rw [if_neg x0, if_neg (show ¬ ¬ (m : Int) < x.toInt + (c : Int) by omega)]; rfl
end Route
