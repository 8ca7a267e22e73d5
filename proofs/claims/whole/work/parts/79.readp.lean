/-! both ways to read come to the same -/
def pSt (T : Nat → Nat) (t : Nat) (x : PR) : PR := if x.1.2 = 0 ∧ x.1.1 < t ∧ T x.1.1 = 114 then pRm T t x else (pBd 1 x.1, x.2)
def pSo (T : Nat → Nat) (t : Nat) (x : PR) : PR := (if x.1.2 = 0 ∧ x.1.1 < t ∧ ¬ kb (T x.1.1) = 0 then x.1 else pBd 1 x.1, x.2)
section Same
variable {T : Nat → Nat} {t : Nat}
theorem pRl_s (c : Nat) (x : PR) : pRl T t (c + 1) x = if x.1.2 = 0 ∧ x.1.1 < t ∧ T x.1.1 = 114 then pRl T t c (pRm T t x) else x := by rw [pRl]
theorem pDl_s (c : Nat) (x : PR) : pDl T t (c + 1) x = if x.1.2 = 0 ∧ x.1.1 < t ∧ ¬ kb (T x.1.1) = 0 then pDl T t c (pDr T t x) else x := by rw [pDl]
theorem pRl_dead (c : Nat) {x : PR} (z : ¬ x.1.2 = 0) : pRl T t c x = x := by
  cases c with
  | zero => rfl
  | succ c => rw [pRl, if_neg (fun w => z w.1)]
theorem pDl_dead (c : Nat) {x : PR} (z : ¬ x.1.2 = 0) : pDl T t c x = x := by
  cases c with
  | zero => rfl
  | succ c => rw [pDl, if_neg (fun w => z w.1)]
theorem pRl_ge : ∀ (c : Nat) (x : PR) (m : Nat), (x.1.2 = 0 → m ≤ x.2 1) → (pRl T t c x).1.2 = 0 → m ≤ (pRl T t c x).2 1
  | 0, x, m, h => h
  | c + 1, x, m, h => by
    rw [pRl]
    by_cases a : x.1.2 = 0 ∧ x.1.1 < t ∧ T x.1.1 = 114
    · rw [if_pos a]
      refine pRl_ge c _ m (fun z => ?_)
      obtain ⟨p1, p2, p3⟩ := pRm_ok z
      rw [p3, addR_1]
      exact Nat.le_succ_of_le (h a.1)
    · rw [if_neg a]; exact h
theorem pDl_ge : ∀ (c : Nat) (x : PR) (m : Nat), (x.1.2 = 0 → m ≤ x.2 0) → (pDl T t c x).1.2 = 0 → m ≤ (pDl T t c x).2 0
  | 0, x, m, h => h
  | c + 1, x, m, h => by
    rw [pDl]
    by_cases a : x.1.2 = 0 ∧ x.1.1 < t ∧ ¬ kb (T x.1.1) = 0
    · rw [if_pos a]
      refine pDl_ge c _ m (fun z => ?_)
      obtain ⟨p1, p2, p3⟩ := pDr_ok z
      rw [p2]
      exact Nat.le_succ_of_le (h a.1)
    · rw [if_neg a]; exact h
theorem bd_if {x : PR} {c : Prop} [Decidable c] (h : x.1.2 = 0 → ¬ c) : ((if c then pBd 1 x.1 else x.1, x.2) : PR) = x := by
  by_cases z : x.1.2 = 0
  · rw [if_neg (h z)]
  · rw [pBd_dead z]
    split <;> rfl
theorem bd_if2 {x : PR} {c : Prop} [Decidable c] (h : x.1.2 = 0 → c) : ((if c then pBd 1 x.1 else x.1, x.2) : PR) = (pBd 1 x.1, x.2) := by
  by_cases z : x.1.2 = 0
  · rw [if_pos (h z)]
  · rw [pBd_dead z]
    split <;> rfl
theorem pR_eq {x : PR} (h0 : x.1.2 = 0 → x.2 1 = 0) : pRl T t 7 (pSt T t (pSt T t x)) = (if (pRl T t 9 x).2 1 < 2 then pBd 1 (pRl T t 9 x).1 else (pRl T t 9 x).1, (pRl T t 9 x).2) := by
  have u9 : ∀ x, pRl T t 9 x = if x.1.2 = 0 ∧ x.1.1 < t ∧ T x.1.1 = 114 then pRl T t 8 (pRm T t x) else x := fun x => pRl_s 8 x
  have u8 : ∀ x, pRl T t 8 x = if x.1.2 = 0 ∧ x.1.1 < t ∧ T x.1.1 = 114 then pRl T t 7 (pRm T t x) else x := fun x => pRl_s 7 x
  by_cases A : x.1.2 = 0 ∧ x.1.1 < t ∧ T x.1.1 = 114
  · rw [u9, if_pos A, show pSt T t x = pRm T t x by rw [pSt, if_pos A]]
    have y1 : (pRm T t x).1.2 = 0 → (pRm T t x).2 1 = 1 := fun z => by
      obtain ⟨p1, p2, p3⟩ := pRm_ok z
      rw [p3, addR_1, h0 A.1]
    generalize pRm T t x = y at y1 ⊢
    by_cases B : y.1.2 = 0 ∧ y.1.1 < t ∧ T y.1.1 = 114
    · rw [u8, if_pos B, show pSt T t y = pRm T t y by rw [pSt, if_pos B]]
      have w2 : (pRl T t 7 (pRm T t y)).1.2 = 0 → 2 ≤ (pRl T t 7 (pRm T t y)).2 1 := pRl_ge 7 _ 2 (fun z => by
        obtain ⟨p1, p2, p3⟩ := pRm_ok z
        rw [p3, addR_1, y1 B.1]
        exact Nat.le_refl _)
      generalize pRl T t 7 (pRm T t y) = w at w2 ⊢
      exact (bd_if (fun z => Nat.not_lt.mpr (w2 z))).symm
    · rw [u8, if_neg B, show pSt T t y = (pBd 1 y.1, y.2) by rw [pSt, if_neg B], pRl_dead 7 (x := (pBd 1 y.1, y.2)) (pBd_ok (by decide))]
      exact (bd_if2 (fun z => by rw [y1 z]; decide)).symm
  · rw [u9, if_neg A, show pSt T t x = (pBd 1 x.1, x.2) by rw [pSt, if_neg A]]
    have zb : ¬ (pBd 1 x.1).2 = 0 := pBd_ok (by decide)
    have e : pSt T t (pBd 1 x.1, x.2) = (pBd 1 x.1, x.2) := by
      rw [pSt, if_neg (fun w => zb w.1)]
      show (pBd 1 (pBd 1 x.1), x.2) = _
      rw [pBd_dead zb]
    rw [e, pRl_dead 7 (x := (pBd 1 x.1, x.2)) zb]
    exact (bd_if2 (fun z => by rw [h0 z]; decide)).symm
theorem pD_eq {x : PR} (h0 : x.1.2 = 0 → x.2 0 = 0) : (if (pDl T t 9 (pSo T t x)).1.1 < t then pBd 1 (pDl T t 9 (pSo T t x)).1 else (pDl T t 9 (pSo T t x)).1) = (if (pDl T t 9 x).2 0 < 1 ∨ (pDl T t 9 x).1.1 < t then pBd 1 (pDl T t 9 x).1 else (pDl T t 9 x).1) ∧ (¬ ((pDl T t 9 x).2 0 < 1 ∨ (pDl T t 9 x).1.1 < t) → (pDl T t 9 (pSo T t x)) = (pDl T t 9 x) ∨ ¬ (pDl T t 9 x).1.2 = 0) := by
  have u9 : ∀ x, pDl T t 9 x = if x.1.2 = 0 ∧ x.1.1 < t ∧ ¬ kb (T x.1.1) = 0 then pDl T t 8 (pDr T t x) else x := fun x => pDl_s 8 x
  by_cases A : x.1.2 = 0 ∧ x.1.1 < t ∧ ¬ kb (T x.1.1) = 0
  · have e : pSo T t x = x := by rw [pSo, if_pos A]
    rw [e]
    refine ⟨?_, fun _ => Or.inl rfl⟩
    have w1 : (pDl T t 9 x).1.2 = 0 → 1 ≤ (pDl T t 9 x).2 0 := by
      rw [u9, if_pos A]
      refine pDl_ge 8 _ 1 (fun z => ?_)
      obtain ⟨p1, p2, p3⟩ := pDr_ok z
      rw [p2]
      exact Nat.succ_le_succ (Nat.zero_le _)
    generalize pDl T t 9 x = w at w1 ⊢
    by_cases z : w.1.2 = 0
    · have := w1 z
      by_cases c : w.1.1 < t
      · rw [if_pos c, if_pos (Or.inr c)]
      · rw [if_neg c, if_neg (by omega)]
    · rw [pBd_dead z]
      split <;> split <;> rfl
  · have e : pSo T t x = (pBd 1 x.1, x.2) := by rw [pSo, if_neg A]
    have zb : ¬ (pBd 1 x.1).2 = 0 := pBd_ok (by decide)
    rw [e, pDl_dead 9 (x := (pBd 1 x.1, x.2)) zb, u9, if_neg A]
    by_cases z : x.1.2 = 0
    · have hx := h0 z
      rw [if_pos (show x.2 0 < 1 ∨ x.1.1 < t from Or.inl (by omega))]
      refine ⟨?_, fun q => absurd (Or.inl (by omega)) q⟩
      show (if (pBd 1 x.1).1 < t then pBd 1 (pBd 1 x.1) else pBd 1 x.1) = _
      rw [pBd_dead zb]
      split <;> rfl
    · refine ⟨?_, fun _ => Or.inr z⟩
      show (if (pBd 1 x.1).1 < t then pBd 1 (pBd 1 x.1) else pBd 1 x.1) = _
      rw [pBd_dead z, pBd_dead z]
      split <;> split <;> rfl
end Same
section ReadP
variable {T : Nat → Nat} {t : Nat} {D : Nat → Nat → Option Nat} {K : Nat → Nat} {n : Nat} {Z : Nat → Cl}
theorem m_zero_L : ∀ (m fuel j : Nat) (I : Nat → Nat → Int32), j + m = 54 → m < fuel → ∃ I', (∀ (β : Type) (kk : Int32 → Hp → Option β), f_X12_house_L11 kk 162 fuel (enc I D K n Z) (nI j) = kk (nI 54) (enc I' D K n Z)) ∧ (∀ x, x ≠ 167 → I' x = I x) ∧ (∀ i, i < j → I' 167 i = I 167 i) ∧ (∀ i, j ≤ i → i < 54 → I' 167 i = 0) := by
  intro m
  induction m with
  | zero =>
    intro fuel j I hj hf
    obtain ⟨f, rfl⟩ : ∃ f, fuel = f + 1 := ⟨fuel - 1, by omega⟩
    have e : j = 54 := by omega
    subst e
    exact ⟨I, fun β kk => by rw [f_X12_house_L11, if_pos (show (54 : Int32) ≤ nI 54 by decide)], fun _ _ => rfl, fun _ _ => rfl, fun i h1 h2 => by omega⟩
  | succ m ih =>
    intro fuel j I hj hf
    obtain ⟨f, rfl⟩ : ∃ f, fuel = f + 1 := ⟨fuel - 1, by omega⟩
    have e8 : ¬ (54 : Int32) ≤ nI j := nI_ge (b := 54) (by omega) (by decide)
    obtain ⟨I', g1, g2, g3, g4⟩ := ih f (j + 1) (va_up I 167 (upd (I 167) j 0)) (by omega) (by omega)
    refine ⟨I', fun β kk => ?_, ?_, ?_, ?_⟩
    · rw [f_X12_house_L11, if_neg e8]
      simp only [r162_6, bA_s, t167 j _ (show j < 54 by omega), z_i2]
      exact g1 β kk
    · intro x hx; rw [g2 x hx, va_up_ne _ _ hx]
    · intro i hi; rw [g3 i (by omega), va_up_self, pk_un (by omega)]
    · intro i h1 h2
      by_cases e : i = j
      · subst e; rw [g3 i (by omega), va_up_self, pk_us]
      · exact g4 i (by omega) h2
theorem m_copy_L : ∀ (m fuel j : Nat) (I : Nat → Nat → Int32), j + m = 54 → m < fuel → ∃ I', (∀ (β : Type) (kk : Int32 → Hp → Option β), f_X12_house_L196 kk 162 fuel (enc I D K n Z) (nI j) = kk (nI 54) (enc I' D K n Z)) ∧ (∀ x, x ≠ 166 → I' x = I x) ∧ (∀ i, i < j → I' 166 i = I 166 i) ∧ (∀ i, j ≤ i → i < 54 → I' 166 i = I 167 i) := by
  intro m
  induction m with
  | zero =>
    intro fuel j I hj hf
    obtain ⟨f, rfl⟩ : ∃ f, fuel = f + 1 := ⟨fuel - 1, by omega⟩
    have e : j = 54 := by omega
    subst e
    exact ⟨I, fun β kk => by rw [f_X12_house_L196, if_pos (show (54 : Int32) ≤ nI 54 by decide)], fun _ _ => rfl, fun _ _ => rfl, fun i h1 h2 => by omega⟩
  | succ m ih =>
    intro fuel j I hj hf
    obtain ⟨f, rfl⟩ : ∃ f, fuel = f + 1 := ⟨fuel - 1, by omega⟩
    have e8 : ¬ (54 : Int32) ≤ nI j := nI_ge (b := 54) (by omega) (by decide)
    obtain ⟨I', g1, g2, g3, g4⟩ := ih f (j + 1) (va_up I 166 (upd (I 166) j (I 167 j))) (by omega) (by omega)
    refine ⟨I', fun β kk => ?_, ?_, ?_, ?_⟩
    · rw [f_X12_house_L196, if_neg e8]
      simp only [r162_5, r162_6, bA_s, l167 j (show j < 54 by omega), t166 j _ (show j < 54 by omega), z_i2]
      exact g1 β kk
    · intro x hx; rw [g2 x hx, va_up_ne _ _ hx]
    · intro i hi; rw [g3 i (by omega), va_up_self, pk_un (by omega)]
    · intro i h1 h2
      by_cases e : i = j
      · subst e; rw [g3 i (by omega), va_up_self, pk_us]
      · rw [g4 i (by omega) h2, va_up_ne _ _ (by decide)]
theorem m_step (ht : TO T t) {I : Nat → Nat → Int32} {x : PR} (h : Ms T t I x.1) (hM : x.1.2 = 0 → MH (I 167) x.2 ∧ x.2 1 ≤ 8) {j : Nat} (hj : j < 2) : ∃ I', (∀ (β : Type) (kk : Int32 → Hp → Option β) (f : Nat), f_X12_house_L99 kk 162 (f + 1) (enc I D K n Z) (nI j) = f_X12_house_L99 kk 162 f (enc I' D K n Z) (nI (j + 1))) ∧ Ms T t I' (pSt T t x).1 ∧ ((pSt T t x).1.2 = 0 → MH (I' 167) (pSt T t x).2) ∧ FTm I I' := by
  have n2 : ¬ (2 : Int32) ≤ nI j := nI_ge (b := 2) hj (by decide)
  unfold pSt
  by_cases y : x.1.2 = 0 ∧ x.1.1 < t ∧ T x.1.1 = 114
  · obtain ⟨x1, x2⟩ := hM y.1
    obtain ⟨I1, k1, k2, k3, k4⟩ := m_room1 (D := D) (K := K) (n := n) (Z := Z) ht h y.1 y.2.1 y.2.2 x1 x2
    rw [if_pos y]
    refine ⟨I1, fun β kk f => ?_, k2, k3, k4⟩
    rw [f_X12_house_L99, if_neg n2, c162, bA_s, m_isR ht h, b2_s, if_pos y, if_neg one0, c162, bA_s, k1, bA_s, bA_s, z_i2]
  · obtain ⟨J, j1, j2, j3⟩ := m_bad (D := D) (K := K) (n := n) (Z := Z) h (1 : Int32) 1 rfl (by decide) (by decide)
    rw [if_neg y]
    refine ⟨J, fun β kk f => ?_, j2, fun q => absurd q (pBd_ok (by decide)), j3.m⟩
    rw [f_X12_house_L99, if_neg n2, c162, bA_s, m_isR ht h, b2_s, if_neg y, if_pos rfl, c162, bA_s, j1, bA_s, bA_s, z_i2]
theorem m_failed (ht : TO T t) {I : Nat → Nat → Int32} {s s' : PS} (h : Ms T t I s) (e : (if s.1 < t then pBd 1 s else s) = s') : ∃ I', f_X12_failed (enc I D K n Z) 162 = some (if s'.2 = 0 then 0 else 1, enc I' D K n Z) ∧ I' 162 11 = nI 0 ∧ I' 162 18 = (if s'.2 = 0 then I 162 18 else nI s'.2) ∧ (¬ s'.2 = 0 → I' 162 17 = nI s'.1) ∧ (∀ x, x ≠ 162 → I' x = I x) ∧ (∀ j, j ≠ 11 → j ≠ 18 → (j < 12 ∨ 17 < j) → I' 162 j = I 162 j) := by
  have i0 : ∃ I0, (if s.2 = 0 then (if I 162 14 = (1 : Int32) then some (enc I D K n Z) else bA (isC (enc I D K n Z) 162 11) fun u16 => bA (f_X12_bad (enc I D K n Z) 162 (1 : Int32)) fun h10 => some h10) else some (enc I D K n Z)) = some (enc I0 D K n Z) ∧ Ms T t I0 s' ∧ FTk I I0 := by
    rw [← e]
    obtain ⟨J, j1, j2, j3⟩ := m_bad (D := D) (K := K) (n := n) (Z := Z) h (1 : Int32) 1 rfl (by decide) (by decide)
    by_cases z : s.2 = 0
    · have k3 := (h.2.2.2.2.1 z).2.2.1
      have e1 : (nI (tkN T t s.1) = (1 : Int32)) = (tkN T t s.1 = 1) := z_eq (m := 1) (by have := tkN_le T t s.1; omega) (by decide)
      rw [if_pos z, k3]
      simp only [e1]
      by_cases c : s.1 < t
      · refine ⟨J, ?_, ?_, j3⟩
        · rw [if_neg (fun q => by have := tk1.mp q; omega), c162, bA_s, j1, bA_s]
        · rw [if_pos c]; exact j2
      · refine ⟨I, ?_, ?_, FTk.rf I⟩
        · rw [if_pos (tk1.mpr (by omega))]
        · rw [if_neg c]; exact h
    · rw [if_neg z, pBd_dead z]
      refine ⟨I, rfl, ?_, FTk.rf I⟩
      split <;> exact h
  obtain ⟨I0, i1, i2, i3⟩ := i0
  have h3 := i2.2.2.1.2
  have ez : (nI s'.2 ≤ (0 : Int32)) = (s'.2 ≤ 0) := z_le (m := 0) (by omega) (by decide)
  simp only [f_X12_failed, g162_16, bA_s, h.z, g162_14]
  rw [i1]
  have i16 := i2.2.2.2.1
  by_cases z : s'.2 = 0
  · refine ⟨va_up I0 162 (upd (upd (I0 162) 11 (nI 0)) 18 (I0 162 18)), ?_, ?_, ?_, fun q => absurd z q, fun x hx => by rw [va_up_ne _ _ hx, i3.1 x hx], fun j g1 g2 g3 => ?_⟩
    · simp only [bA_s, p162_11, g162_16, va_up_self, pk_un (show 16 ≠ 11 by decide), i16, ez, if_pos (show s'.2 ≤ 0 by omega), g162_18, pk_un (show 18 ≠ 11 by decide), p162_18, bx_uu, pk_un (show 16 ≠ 18 by decide), if_pos z, bz0]
      rfl
    · rw [va_up_self, pk_un (by decide), pk_us]
    · rw [va_up_self, pk_us, if_pos z, i3.2 18 (by omega)]
    · rw [va_up_self, pk_un g2, pk_un g1, i3.2 j g3]
  · refine ⟨va_up I0 162 (upd (upd (I0 162) 11 (nI 0)) 18 (nI s'.2)), ?_, ?_, ?_, fun q => ?_, fun x hx => by rw [va_up_ne _ _ hx, i3.1 x hx], fun j g1 g2 g3 => ?_⟩
    · simp only [bA_s, p162_11, g162_16, va_up_self, pk_un (show 16 ≠ 11 by decide), i16, ez, if_neg (show ¬ s'.2 ≤ 0 by omega), p162_18, bx_uu, pk_un (show 16 ≠ 18 by decide), if_neg z, bz1]
      rfl
    · rw [va_up_self, pk_un (by decide), pk_us]
    · rw [va_up_self, pk_us, if_neg z]
    · rw [va_up_self, pk_un (by decide), pk_un (by decide)]; exact i2.2.2.2.2.2 z
    · rw [va_up_self, pk_un g2, pk_un g1, i3.2 j g3]
end ReadP
