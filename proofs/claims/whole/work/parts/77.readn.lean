/-- what the reference's reading may change: its own places 12 to 17 -/
def FTk (I I' : Nat → Nat → Int32) : Prop := (∀ x, x ≠ 162 → I' x = I x) ∧ (∀ j, (j < 12 ∨ 17 < j) → I' 162 j = I 162 j)
theorem FTk.rf (I : Nat → Nat → Int32) : FTk I I := ⟨fun _ _ => rfl, fun _ _ => rfl⟩
theorem FTk.tr {I J L : Nat → Nat → Int32} (h : FTk I J) (g : FTk J L) : FTk I L := ⟨fun x hx => (g.1 x hx).trans (h.1 x hx), fun j hj => (g.2 j hj).trans (h.2 j hj)⟩
def pMu (T : Nat → Nat) (t : Nat) (x : Int32) (s : PS) : PS := if x = 0 then pBd 1 s else if s.2 = 0 then (cuN T t s.1, 0) else s
section Tok
variable {T : Nat → Nat} {t p : Nat}
theorem tk1 : tkN T t p = 1 ↔ t ≤ p := by
  unfold tkN
  by_cases e : t ≤ p
  · rw [if_pos e]; simp [e]
  · rw [if_neg e]
    simp only [e, iff_false]
    repeat' split
    all_goals omega
theorem tk2 : tkN T t p = 2 ↔ p < t ∧ 97 ≤ T p ∧ T p ≤ 122 := by
  unfold tkN
  by_cases e : t ≤ p
  · rw [if_pos e]; constructor
    · intro q; omega
    · intro q; omega
  · rw [if_neg e]
    by_cases a : 97 ≤ T p ∧ T p ≤ 122
    · rw [if_pos a]; exact ⟨fun _ => ⟨by omega, a⟩, fun _ => rfl⟩
    · rw [if_neg a]
      constructor
      · intro q
        exfalso
        revert q
        repeat' split
        all_goals omega
      · intro q; exact absurd q.2 a
theorem tk3 : tkN T t p = 3 ↔ 1 ≤ figN T t p ∧ figN T t p ≤ 2 := by
  unfold tkN
  by_cases e : t ≤ p
  · rw [if_pos e, figN_t e]; omega
  · rw [if_neg e]
    by_cases dg : 48 ≤ T p ∧ T p ≤ 57
    · have := figN_s (show p < t by omega) dg
      rw [if_neg (show ¬ (97 ≤ T p ∧ T p ≤ 122) by omega), if_pos dg]
      by_cases c : figN T t p ≤ 2
      · rw [if_pos c]; omega
      · rw [if_neg c]; omega
    · rw [if_neg dg, figN_0 dg]
      constructor
      · intro q
        exfalso
        revert q
        repeat' split
        all_goals omega
      · intro q; omega
theorem tk4 : tkN T t p = 4 ↔ p < t ∧ (T p = 44 ∨ T p = 59) := by
  unfold tkN
  by_cases e : t ≤ p
  · rw [if_pos e]; omega
  · rw [if_neg e]
    by_cases a : T p = 44 ∨ T p = 59
    · rw [if_neg (show ¬ (97 ≤ T p ∧ T p ≤ 122) by omega), if_neg (show ¬ (48 ≤ T p ∧ T p ≤ 57) by omega), if_pos a]
      exact ⟨fun _ => ⟨by omega, a⟩, fun _ => rfl⟩
    · rw [if_neg a]
      constructor
      · intro q
        exfalso
        revert q
        repeat' split
        all_goals omega
      · intro q; exact absurd q.2 a
theorem cu_n (h : p < t) (hd : ¬ (48 ≤ T p ∧ T p ≤ 57)) : cuN T t p = p + 1 := by
  unfold cuN; rw [if_neg (by omega), if_neg hd]
theorem cu_f (h : tkN T t p = 3) : cuN T t p = p + figN T t p := by
  have q := tk3.mp h
  have hl : p < t := by
    rcases Nat.lt_or_ge p t with c | c
    · exact c
    · rw [figN_t c] at q; omega
  have hd : 48 ≤ T p ∧ T p ≤ 57 := by
    exact Classical.byContradiction fun z => by rw [figN_0 z] at q; omega
  unfold cuN; rw [if_neg (by omega), if_pos hd]
theorem cu_le (h : p ≤ t) : cuN T t p ≤ t := by
  unfold cuN
  split
  · exact h
  · split
    · exact figN_le h
    · omega
end Tok
section ReadN
variable {T : Nat → Nat} {t : Nat} {I : Nat → Nat → Int32} {D : Nat → Nat → Option Nat} {K : Nat → Nat} {n : Nat} {Z : Nat → Cl} {s : PS}
theorem Ms.z (h : Ms T t I s) : (I 162 16 = (0 : Int32)) = (s.2 = 0) := by rw [h.2.2.2.1]; exact z_eq (by have := h.2.2.1.2; omega) (by decide)
theorem Ms.keep {I' : Nat → Nat → Int32} (h : Ms T t I s) (e : I' 162 = I 162) (e2 : I' 170 = I 170) : Ms T t I' s := by
  unfold Ms; rw [e, e2]; exact h
theorem m_bad (h : Ms T t I s) (x : Int32) (k : Nat) (hx : x = nI k) (hk : k ≤ 3) (hk0 : k ≠ 0) : ∃ I', f_X12_bad (enc I D K n Z) 162 x = some (enc I' D K n Z) ∧ Ms T t I' (pBd k s) ∧ FTk I I' := by
  have hz := h.z
  have h' := h
  obtain ⟨h1, h2, h3, h4, h5, h6⟩ := h'
  simp only [f_X12_bad, g162_16, bA_s, hz, pBd]
  by_cases z : s.2 = 0
  · have k13 := (h5 z).1
    simp only [if_pos z, p162_16, bA_s, g162_13, va_up_self, pu_13_16, k13, p162_17, bx_uu]
    refine ⟨_, rfl, ⟨?_, ?_, ⟨h3.1, hk⟩, ?_, fun q => absurd q hk0, fun _ => ?_⟩, fun x hx => va_up_ne _ _ hx, fun j hj => ?_⟩
    · rw [va_up_self, pu_11_17, pu_11_16]; exact h1
    · intro j hj; rw [va_up_ne _ _ (by decide)]; exact h2 j hj
    · rw [va_up_self, pu_16_17, pk_us, hx]
    · rw [va_up_self, pk_us]
    · rw [va_up_self, pk_un (by omega), pk_un (by omega)]
  · simp only [if_neg z, bA_s]
    exact ⟨I, rfl, h, FTk.rf I⟩
theorem m_must (ht : TO T t) (h : Ms T t I s) (x : Int32) : ∃ I', f_X12_must (enc I D K n Z) 162 x = some (enc I' D K n Z) ∧ Ms T t I' (pMu T t x s) ∧ FTk I I' := by
  unfold pMu
  by_cases e : x = 0
  · obtain ⟨J, j1, j2, j3⟩ := m_bad (D := D) (K := K) (n := n) (Z := Z) h (1 : Int32) 1 rfl (by decide) (by decide)
    have z := pBd_ok (s := s) (show (1 : Nat) ≠ 0 by decide)
    rw [if_pos e]
    simp only [f_X12_must, if_pos e, c162, bA_s, j1, g162_16, j2.z, if_neg z]
    exact ⟨J, rfl, j2, j3⟩
  · rw [if_neg e]
    by_cases z : s.2 = 0
    · have h' := h
      obtain ⟨h1, h2, h3, h4, h5, h6⟩ := h'
      obtain ⟨J, j1, j2, j3, j4⟩ := m_next (D := D) (K := K) (n := n) (Z := Z) ht h1 h2 (cu_le (T := T) h3.1) (h5 z).2.1
      simp only [f_X12_must, if_neg e, c162, bA_s, j1, g162_16, h.z, if_pos z]
      refine ⟨J, rfl, ⟨?_, ?_, ⟨cu_le h3.1, Nat.zero_le _⟩, ?_, fun _ => j2, fun q => absurd rfl q⟩, j3, fun j hj => j4 j (by omega)⟩
      · rw [j4 11 (by omega)]; exact h1
      · intro j hj; rw [j3 170 (by decide)]; exact h2 j hj
      · rw [j4 16 (by omega), h4, z]
    · simp only [f_X12_must, if_neg e, bA_s, g162_16, h.z, if_neg z]
      exact ⟨I, rfl, h, FTk.rf I⟩
theorem m_sg (ht : TO T t) (h : Ms T t I s) (x : Int32) (c : Nat) (hx : x = nI c) (hc : c = 44 ∨ c = 59) : ∃ I', f_X12_mustSign (enc I D K n Z) 162 x = some (enc I' D K n Z) ∧ Ms T t I' (pSg T t c s) ∧ FTk I I' := by
  obtain ⟨y, hy⟩ : ∃ y, (if I 162 14 = (4 : Int32) then (if I 162 15 = x then some (1 : Int32) else some (0 : Int32)) else some (0 : Int32)) = some y := by
    by_cases a : I 162 14 = (4 : Int32)
    · rw [if_pos a]
      by_cases b : I 162 15 = x
      · exact ⟨1, by rw [if_pos b]⟩
      · exact ⟨0, by rw [if_neg b]⟩
    · exact ⟨0, by rw [if_neg a]⟩
  obtain ⟨J, j1, j2, j3⟩ := m_must (D := D) (K := K) (n := n) (Z := Z) ht h y
  refine ⟨J, ?_, ?_, j3⟩
  · simp only [f_X12_mustSign, g162_14, bA_s, g162_15]
    rw [hy]
    simp only [bA_s, c162, j1]
  · have e : pMu T t y s = pSg T t c s := by
      unfold pMu
      by_cases z : s.2 = 0
      · obtain ⟨k1, k2, k3, k4, k5⟩ := h.2.2.2.2.1 z
        have e4 : (nI (tkN T t s.1) = (4 : Int32)) = (tkN T t s.1 = 4) := z_eq (m := 4) (by have := tkN_le T t s.1; omega) (by decide)
        rw [k3] at hy
        simp only [e4] at hy
        simp only [pSg, pBd, if_pos z]
        by_cases a : tkN T t s.1 = 4
        · have q := tk4.mp a
          have hT := ht.2 _ q.1
          have ec : (nI (T s.1) = x) = (T s.1 = c) := by rw [hx]; exact z_eq (by omega) (by omega)
          rw [if_pos a, k5 (Or.inr a)] at hy
          simp only [ec] at hy
          by_cases b : T s.1 = c
          · rw [if_pos b] at hy
            cases hy
            rw [if_neg one0, if_pos ⟨q.1, b⟩, cu_n q.1 (by omega)]
          · rw [if_neg b] at hy
            cases hy
            rw [if_pos rfl, if_neg (fun w => b w.2)]
        · rw [if_neg a] at hy
          cases hy
          rw [if_pos rfl, if_neg (fun w => a (tk4.mpr ⟨w.1, by omega⟩))]
      · rw [pSg_dead z, pBd_dead z]
        split
        · rfl
        · rfl
    rw [← e]; exact j2
theorem m_isL (ht : TO T t) (h : Ms T t I s) (c : Nat) (hc : 97 ≤ c ∧ c ≤ 122) : (if I 162 16 = 0 then (if I 162 14 = (2 : Int32) then (if I 162 15 = nI c then some (1 : Int32) else some (0 : Int32)) else some (0 : Int32)) else some (0 : Int32)) = some (if s.2 = 0 ∧ s.1 < t ∧ T s.1 = c then (1 : Int32) else 0) := by
  simp only [h.z]
  by_cases z : s.2 = 0
  · obtain ⟨k1, k2, k3, k4, k5⟩ := h.2.2.2.2.1 z
    have e2 : (nI (tkN T t s.1) = (2 : Int32)) = (tkN T t s.1 = 2) := z_eq (m := 2) (by have := tkN_le T t s.1; omega) (by decide)
    rw [if_pos z, k3]
    simp only [e2]
    by_cases a : tkN T t s.1 = 2
    · have q := tk2.mp a
      have ec : (nI (T s.1) = nI c) = (T s.1 = c) := z_eq (by omega) (by omega)
      rw [if_pos a, k5 (Or.inl a)]
      simp only [ec]
      by_cases b : T s.1 = c
      · rw [if_pos b, if_pos ⟨z, q.1, b⟩]
      · rw [if_neg b, if_neg (fun w => b w.2.2)]
    · rw [if_neg a, if_neg (fun w => a (tk2.mpr ⟨w.2.1, by omega⟩))]
  · rw [if_neg z, if_neg (fun w => z w.1)]
theorem bz_if (c : Prop) [Decidable c] : bz (if c then (1 : Int32) else 0) = some () := by
  by_cases h : c
  · rw [if_pos h]; rfl
  · rw [if_neg h]; rfl
theorem m_isH (ht : TO T t) (h : Ms T t I s) : f_X12_isLetter (enc I D K n Z) 162 (104 : Int32) = some (if s.2 = 0 ∧ s.1 < t ∧ T s.1 = 104 then 1 else 0, enc I D K n Z) := by
  have q : (if I 162 16 = 0 then (if I 162 14 = (2 : Int32) then (if I 162 15 = (104 : Int32) then some (1 : Int32) else some (0 : Int32)) else some (0 : Int32)) else some (0 : Int32)) = some (if s.2 = 0 ∧ s.1 < t ∧ T s.1 = 104 then (1 : Int32) else 0) := m_isL ht h 104 (by decide)
  simp only [f_X12_isLetter, g162_16, g162_14, g162_15, bA_s]
  rw [q]
  simp only [bA_s, bz_if]
theorem m_isR (ht : TO T t) (h : Ms T t I s) : f_X12_isRoomNext (enc I D K n Z) 162 = some (if s.2 = 0 ∧ s.1 < t ∧ T s.1 = 114 then 1 else 0, enc I D K n Z) := by
  have q : (if I 162 16 = 0 then (if I 162 14 = (2 : Int32) then (if I 162 15 = (114 : Int32) then some (1 : Int32) else some (0 : Int32)) else some (0 : Int32)) else some (0 : Int32)) = some (if s.2 = 0 ∧ s.1 < t ∧ T s.1 = 114 then (1 : Int32) else 0) := m_isL ht h 114 (by decide)
  simp only [f_X12_isRoomNext, g162_16, g162_14, g162_15, bA_s]
  rw [q]
  simp only [bA_s, bz_if]
theorem m_kb (h : Hp) {v : Nat} (hv : v ≤ 255) : f_X12_kindBy h (nI v) = some (if kb v = 0 then (-1000000 : Int32) else nI (kb v), h) := by
  have e98 : (nI v = (98 : Int32)) = (v = 98) := z_eq (m := 98) (by omega) (by decide)
  have e99 : (nI v = (99 : Int32)) = (v = 99) := z_eq (m := 99) (by omega) (by decide)
  have e107 : (nI v = (107 : Int32)) = (v = 107) := z_eq (m := 107) (by omega) (by decide)
  have e108 : (nI v = (108 : Int32)) = (v = 108) := z_eq (m := 108) (by omega) (by decide)
  have e115 : (nI v = (115 : Int32)) = (v = 115) := z_eq (m := 115) (by omega) (by decide)
  simp only [f_X12_kindBy, e98, e99, e107, e108, e115]
  by_cases a : v = 98
  · subst a; rfl
  · by_cases b : v = 99
    · subst b; rfl
    · by_cases c : v = 107
      · subst c; rfl
      · by_cases d : v = 108
        · subst d; rfl
        · by_cases e : v = 115
          · subst e; rfl
          · have k0 : kb v = 0 := by unfold kb; rw [if_neg a, if_neg b, if_neg c, if_neg d, if_neg e]
            rw [if_neg d, if_neg a, if_neg b, if_neg c, if_neg e, k0, if_pos rfl, bA_s]
theorem kb_al {v : Nat} (h : ¬ kb v = 0) : 97 ≤ v ∧ v ≤ 122 := by
  refine Classical.byContradiction fun q => h ?_
  unfold kb
  rw [if_neg (by omega), if_neg (by omega), if_neg (by omega), if_neg (by omega), if_neg (by omega)]
theorem m_isS (ht : TO T t) (h : Ms T t I s) : f_X12_isSort (enc I D K n Z) 162 = some (if s.2 = 0 ∧ s.1 < t ∧ ¬ kb (T s.1) = 0 then 1 else 0, enc I D K n Z) := by
  simp only [f_X12_isSort, g162_16, bA_s, h.z]
  by_cases z : s.2 = 0
  · obtain ⟨k1, k2, k3, k4, k5⟩ := h.2.2.2.2.1 z
    have e2 : (nI (tkN T t s.1) = (2 : Int32)) = (tkN T t s.1 = 2) := z_eq (m := 2) (by have := tkN_le T t s.1; omega) (by decide)
    simp only [if_pos z, g162_14, bA_s, k3, e2]
    by_cases a : tkN T t s.1 = 2
    · have q := tk2.mp a
      have hT := ht.2 _ q.1
      simp only [if_pos a, g162_15, bA_s, k5 (Or.inl a), m_kb _ hT, b2_s]
      have hk := kb_le (T s.1)
      by_cases b : kb (T s.1) = 0
      · rw [if_pos b, if_pos rfl, b2_s, if_neg (show ¬ (s.2 = 0 ∧ s.1 < t ∧ ¬ kb (T s.1) = 0) from fun w => w.2.2 b)]; rfl
      · have nb : ¬ nI (kb (T s.1)) = (-1000000 : Int32) := fun w => by
          have := congrArg Int32.toInt w
          rw [toInt_nI (by omega), show (-1000000 : Int32).toInt = -1000000 by decide] at this
          omega
        rw [if_neg b, if_neg nb, b2_s, if_pos (show s.2 = 0 ∧ s.1 < t ∧ ¬ kb (T s.1) = 0 from ⟨z, q.1, b⟩)]; rfl
    · simp only [if_neg a, b2_s, bz0, bA_s]
      rw [if_neg (fun w => a (tk2.mpr ⟨w.2.1, kb_al w.2.2⟩))]
  · simp only [if_neg z, b2_s, bz0, bA_s]
    rw [if_neg (fun w => z w.1)]
theorem m_numDead (ht : TO T t) (h : Ms T t I s) (z : ¬ s.2 = 0) (x1 x2 : Int32) : ∃ y I', f_X12_number (enc I D K n Z) 162 x1 x2 = some (y, enc I' D K n Z) ∧ Ms T t I' s ∧ FTk I I' := by
  obtain ⟨J, j1, j2, j3⟩ := m_must (D := D) (K := K) (n := n) (Z := Z) ht h (1 : Int32)
  have e : pMu T t 1 s = s := by rw [pMu, if_neg one0, if_neg z]
  rw [e] at j2
  simp only [f_X12_number, g162_16, bA_s, h.z, if_neg z, c162, j1]
  exact ⟨_, J, rfl, j2, j3⟩
theorem m_num (ht : TO T t) (h : Ms T t I s) (x1 x2 : Int32) (lo hi : Nat) (e1 : x1 = nI lo) (e2 : x2 = nI hi) (hlo : lo ≤ 255) (hhi : hi ≤ 255) : ∃ y I', f_X12_number (enc I D K n Z) 162 x1 x2 = some (y, enc I' D K n Z) ∧ Ms T t I' (pNm T t lo hi (-1) s) ∧ FTk I I' ∧ ((pNm T t lo hi (-1) s).2 = 0 → y = nI (nvN T t s.1)) := by
  by_cases z : s.2 = 0
  · obtain ⟨k1, k2, k3, k4, k5⟩ := h.2.2.2.2.1 z
    have e3 : (nI (tkN T t s.1) = (3 : Int32)) = (tkN T t s.1 = 3) := z_eq (m := 3) (by have := tkN_le T t s.1; omega) (by decide)
    by_cases a : tkN T t s.1 = 3
    · have q := tk3.mp a
      have hv := nvN_le q.1 q.2
      have kv := k4 a
      have c1 : (x1 ≤ nI (nvN T t s.1)) = (lo ≤ nvN T t s.1) := by rw [e1]; exact z_le (by omega) (by omega)
      have c2' : (nI (nvN T t s.1) ≤ x2) = (nvN T t s.1 ≤ hi) := by rw [e2]; exact z_le (by omega) (by omega)
      have hin : f_X12_in (enc I D K n Z) (nI (nvN T t s.1)).toInt64 x1.toInt64 x2.toInt64 = some (if lo ≤ nvN T t s.1 ∧ nvN T t s.1 ≤ hi then 1 else 0, enc I D K n Z) := by
        rw [m_in32]; simp only [c1, c2']
      by_cases b : lo ≤ nvN T t s.1 ∧ nvN T t s.1 ≤ hi
      · have e : pNm T t lo hi (-1) s = pMu T t 1 s := by
          rw [pNm, if_pos z, if_neg (by omega), if_neg (fun w => w.elim (fun w => by omega) (fun w => w.elim (fun w => by omega) (fun w => m1_ne _ (by omega) w.symm))), pMu, if_neg one0, if_pos z, cu_f a]
        obtain ⟨J, j1, j2, j3⟩ := m_must (D := D) (K := K) (n := n) (Z := Z) ht h (1 : Int32)
        rw [e]
        simp only [f_X12_number, g162_16, bA_s, h.z, if_pos z, g162_14, k3, e3, if_pos a, g162_15, kv, hin, b2_s, if_pos b, if_neg one0, c162, j1]
        exact ⟨_, J, rfl, j2, j3, fun _ => rfl⟩
      · have e : pNm T t lo hi (-1) s = pBd 2 s := by
          rw [pNm, if_pos z, if_neg (by omega), if_pos (by omega), pBd, if_pos z]
        obtain ⟨J, j1, j2, j3⟩ := m_bad (D := D) (K := K) (n := n) (Z := Z) h (2 : Int32) 2 rfl (by decide) (by decide)
        have zb := pBd_ok (s := s) (show (2 : Nat) ≠ 0 by decide)
        obtain ⟨L, l1, l2, l3⟩ := m_must (D := D) (K := K) (n := n) (Z := Z) ht j2 (1 : Int32)
        have em : pMu T t 1 (pBd 2 s) = pBd 2 s := by rw [pMu, if_neg one0, if_neg zb]
        rw [em] at l2
        rw [e]
        simp only [f_X12_number, g162_16, bA_s, h.z, if_pos z, g162_14, k3, e3, if_pos a, g162_15, kv, hin, b2_s, if_neg b, if_true, c162, j1, j2.z, if_neg zb, l1]
        exact ⟨_, L, rfl, l2, j3.tr l3, fun w => absurd w zb⟩
    · have e : pNm T t lo hi (-1) s = pBd 1 s := by
        have : figN T t s.1 < 1 ∨ 2 < figN T t s.1 := by
          have w : ¬ (1 ≤ figN T t s.1 ∧ figN T t s.1 ≤ 2) := fun w => a (tk3.mpr w)
          omega
        rw [pNm, if_pos z, if_pos this, pBd, if_pos z]
      obtain ⟨J, j1, j2, j3⟩ := m_bad (D := D) (K := K) (n := n) (Z := Z) h (1 : Int32) 1 rfl (by decide) (by decide)
      have zb := pBd_ok (s := s) (show (1 : Nat) ≠ 0 by decide)
      obtain ⟨L, l1, l2, l3⟩ := m_must (D := D) (K := K) (n := n) (Z := Z) ht j2 (1 : Int32)
      have em : pMu T t 1 (pBd 1 s) = pBd 1 s := by rw [pMu, if_neg one0, if_neg zb]
      rw [em] at l2
      rw [e]
      simp only [f_X12_number, g162_16, bA_s, h.z, if_pos z, g162_14, k3, e3, if_neg a, c162, j1, j2.z, if_neg zb, l1]
      exact ⟨_, L, rfl, l2, j3.tr l3, fun w => absurd w zb⟩
  · obtain ⟨y, J, j1, j2, j3⟩ := m_numDead (D := D) (K := K) (n := n) (Z := Z) ht h z x1 x2
    rw [pNm_dead z]
    exact ⟨y, J, j1, j2, j3, fun w => absurd w z⟩
theorem m_other (ht : TO T t) (h : Ms T t I s) (x : Int32) {rc : Nat} (h1 : 1 ≤ rc) (h8 : rc ≤ 8) (hr : I 167 1 = nI rc) : ∃ y I', f_X12_otherRoom (enc I D K n Z) 162 x = some (y, enc I' D K n Z) ∧ Ms T t I' (pNm T t 0 (rc - 1) x s) ∧ FTk I I' ∧ ((pNm T t 0 (rc - 1) x s).2 = 0 → y = nI (nvN T t s.1)) := by
  have er : nI rc - (1 : Int32) = nI (rc - 1) := pk_sub (b := 1) h1
  have l1 : ∀ J : Nat → Nat → Int32, J 167 = I 167 → ald (enc J D K n Z) 167 0 (1 : Int32) = some (nI rc) := fun J e => by
    have z := ald_n (I := J) (D := D) (K := K) (n := n) (Z := Z) s_167 1 (by decide) (by decide)
    rw [e, hr] at z
    exact z
  by_cases c : s.2 = 0 ∧ tkN T t s.1 = 3 ∧ nI (nvN T t s.1) = x
  · obtain ⟨z, a, b⟩ := c
    obtain ⟨k1, k2, k3, k4, k5⟩ := h.2.2.2.2.1 z
    have e3 : (nI (tkN T t s.1) = (3 : Int32)) = (tkN T t s.1 = 3) := z_eq (m := 3) (by have := tkN_le T t s.1; omega) (by decide)
    have q := tk3.mp a
    have e : pNm T t 0 (rc - 1) x s = pBd 2 s := by
      rw [pNm, if_pos z, if_neg (by omega), if_pos (Or.inr (Or.inr b)), pBd, if_pos z]
    obtain ⟨J, j1, j2, j3⟩ := m_bad (D := D) (K := K) (n := n) (Z := Z) h (2 : Int32) 2 rfl (by decide) (by decide)
    have zb := pBd_ok (s := s) (show (2 : Nat) ≠ 0 by decide)
    obtain ⟨y, L, w1, w2, w3⟩ := m_numDead (D := D) (K := K) (n := n) (Z := Z) ht j2 zb (0 : Int32) (nI (rc - 1))
    rw [e]
    simp only [f_X12_otherRoom, g162_16, bA_s, h.z, if_pos z, g162_14, k3, e3, if_pos a, g162_15, k4 a, if_pos b, c162, j1, r162_6, l1 J (j3.1 167 (by decide)), er, w1, b2_s]
    exact ⟨y, L, rfl, w2, j3.tr w3, fun w => absurd w zb⟩
  · have e : pNm T t 0 (rc - 1) x s = pNm T t 0 (rc - 1) (-1) s := by
      by_cases z : s.2 = 0
      · rw [pNm, pNm, if_pos z, if_pos z]
        by_cases a : figN T t s.1 < 1 ∨ 2 < figN T t s.1
        · rw [if_pos a, if_pos a]
        · rw [if_neg a, if_neg a]
          have hv := nvN_le (T := T) (t := t) (p := s.1) (by omega) (by omega)
          have nx : ¬ nI (nvN T t s.1) = x := fun w => c ⟨z, tk3.mpr (by omega), w⟩
          have nm : ¬ nI (nvN T t s.1) = (-1 : Int32) := fun w => m1_ne _ (by omega) w.symm
          simp only [nx, nm]
      · rw [pNm_dead z, pNm_dead z]
    obtain ⟨y, J, j1, j2, j3, j4⟩ := m_num (D := D) (K := K) (n := n) (Z := Z) ht h (0 : Int32) (nI (rc - 1)) 0 (rc - 1) rfl rfl (by decide) (by omega)
    rw [e]
    refine ⟨y, J, ?_, j2, j3, j4⟩
    by_cases z : s.2 = 0
    · obtain ⟨k1, k2, k3, k4, k5⟩ := h.2.2.2.2.1 z
      have e3 : (nI (tkN T t s.1) = (3 : Int32)) = (tkN T t s.1 = 3) := z_eq (m := 3) (by have := tkN_le T t s.1; omega) (by decide)
      by_cases a : tkN T t s.1 = 3
      · have b : ¬ nI (nvN T t s.1) = x := fun w => c ⟨z, a, w⟩
        simp only [f_X12_otherRoom, g162_16, bA_s, h.z, if_pos z, g162_14, k3, e3, if_pos a, g162_15, k4 a, if_neg b, r162_6, l1 I rfl, c162, er, j1, b2_s]
      · simp only [f_X12_otherRoom, g162_16, bA_s, h.z, if_pos z, g162_14, k3, e3, if_neg a, r162_6, l1 I rfl, c162, er, j1, b2_s]
    · simp only [f_X12_otherRoom, g162_16, bA_s, h.z, if_neg z, r162_6, l1 I rfl, c162, er, j1, b2_s]
end ReadN
