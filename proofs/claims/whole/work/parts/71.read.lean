/-! THE CALL house: what is read, place by place (s.1: where it stands, s.2: the fault, 0 none) -/
abbrev PS : Type := Nat × Nat
def fgN (T : Nat → Nat) : Nat → Nat → Nat
  | 0, _ => 0
  | c + 1, p => if 48 ≤ T p ∧ T p ≤ 57 then fgN T c (p + 1) + 1 else 0
def figN (T : Nat → Nat) (t p : Nat) : Nat := fgN T (t - p) p
def nvN (T : Nat → Nat) (t p : Nat) : Nat := if figN T t p = 1 then T p - 48 else 10 * (T p - 48) + (T (p + 1) - 48)
def pSg (T : Nat → Nat) (t c : Nat) (s : PS) : PS := if s.2 = 0 then (if s.1 < t ∧ T s.1 = c then (s.1 + 1, 0) else (s.1, 1)) else s
def pNm (T : Nat → Nat) (t lo hi : Nat) (b : Int32) (s : PS) : PS := if s.2 = 0 then (if figN T t s.1 < 1 ∨ 2 < figN T t s.1 then (s.1, 1) else if nvN T t s.1 < lo ∨ hi < nvN T t s.1 ∨ nI (nvN T t s.1) = b then (s.1, 2) else (s.1 + figN T t s.1, 0)) else s
def pBd (k : Nat) (s : PS) : PS := if s.2 = 0 then (s.1, k) else s
def kb (c : Nat) : Nat := if c = 98 then 2 else if c = 99 then 3 else if c = 107 then 4 else if c = 108 then 1 else if c = 115 then 5 else 0
def ksN (T : Nat → Nat) (t p : Nat) : Nat := if p < t then kb (T p) else 0
def TO (T : Nat → Nat) (t : Nat) : Prop := t ≤ 110 ∧ ∀ j, j < t → T j ≤ 255
def Cs (T : Nat → Nat) (t : Nat) (I : Nat → Nat → Int32) (s : PS) : Prop := I 2 2 = nI t ∧ I 2 3 = nI s.1 ∧ I 2 4 = nI s.2 ∧ (∀ j, j < t → I 3 j = nI (T j)) ∧ s.1 ≤ t ∧ s.2 ≤ 3
theorem fgN_le (T : Nat → Nat) : ∀ c p, fgN T c p ≤ c
  | 0, _ => Nat.le_refl _
  | c + 1, p => by
    rw [fgN]
    by_cases a : 48 ≤ T p ∧ T p ≤ 57
    · rw [if_pos a]; have := fgN_le T c (p + 1); omega
    · rw [if_neg a]; omega
theorem fgN_dig (T : Nat → Nat) : ∀ c p j, j < fgN T c p → 48 ≤ T (p + j) ∧ T (p + j) ≤ 57
  | 0, _, _, h => absurd h (Nat.not_lt_zero _)
  | c + 1, p, j, h => by
    rw [fgN] at h
    by_cases a : 48 ≤ T p ∧ T p ≤ 57
    · rw [if_pos a] at h
      cases j with
      | zero => exact a
      | succ j =>
        have q := fgN_dig T c (p + 1) j (by omega)
        rw [show p + 1 + j = p + (j + 1) by omega] at q
        exact q
    · rw [if_neg a] at h; omega
theorem figN_le {T : Nat → Nat} {t p : Nat} (h : p ≤ t) : p + figN T t p ≤ t := by
  have := fgN_le T (t - p) p
  unfold figN; omega
theorem figN_dig {T : Nat → Nat} {t p j : Nat} (h : j < figN T t p) : 48 ≤ T (p + j) ∧ T (p + j) ≤ 57 := fgN_dig T (t - p) p j h
theorem nvN_le {T : Nat → Nat} {t p : Nat} (h1 : 1 ≤ figN T t p) (h2 : figN T t p ≤ 2) : nvN T t p ≤ 99 := by
  have d0 := figN_dig (T := T) (t := t) (p := p) (j := 0) (by omega)
  rw [Nat.add_zero] at d0
  unfold nvN
  by_cases e : figN T t p = 1
  · rw [if_pos e]; omega
  · rw [if_neg e]
    have d1 := figN_dig (T := T) (t := t) (p := p) (j := 1) (by omega)
    omega
theorem pSg_dead {T : Nat → Nat} {t c : Nat} {s : PS} (h : ¬ s.2 = 0) : pSg T t c s = s := by rw [pSg, if_neg h]
theorem pNm_dead {T : Nat → Nat} {t lo hi : Nat} {b : Int32} {s : PS} (h : ¬ s.2 = 0) : pNm T t lo hi b s = s := by rw [pNm, if_neg h]
theorem pBd_dead {k : Nat} {s : PS} (h : ¬ s.2 = 0) : pBd k s = s := by rw [pBd, if_neg h]
theorem pSg_ok {T : Nat → Nat} {t c : Nat} {s : PS} (h : (pSg T t c s).2 = 0) : s.2 = 0 ∧ s.1 < t ∧ T s.1 = c ∧ pSg T t c s = (s.1 + 1, 0) := by
  by_cases z : s.2 = 0
  · rw [pSg, if_pos z] at h ⊢
    by_cases a : s.1 < t ∧ T s.1 = c
    · rw [if_pos a]; exact ⟨z, a.1, a.2, rfl⟩
    · rw [if_neg a] at h; exact absurd h (by show ¬ 1 = 0; decide)
  · rw [pSg_dead z] at h; exact absurd h z
theorem pNm_ok {T : Nat → Nat} {t lo hi : Nat} {b : Int32} {s : PS} (h : (pNm T t lo hi b s).2 = 0) : s.2 = 0 ∧ (1 ≤ figN T t s.1 ∧ figN T t s.1 ≤ 2) ∧ (lo ≤ nvN T t s.1 ∧ nvN T t s.1 ≤ hi) ∧ ¬ nI (nvN T t s.1) = b ∧ pNm T t lo hi b s = (s.1 + figN T t s.1, 0) := by
  by_cases z : s.2 = 0
  · rw [pNm, if_pos z] at h ⊢
    by_cases a : figN T t s.1 < 1 ∨ 2 < figN T t s.1
    · rw [if_pos a] at h; exact absurd h (by show ¬ 1 = 0; decide)
    · rw [if_neg a] at h ⊢
      by_cases c : nvN T t s.1 < lo ∨ hi < nvN T t s.1 ∨ nI (nvN T t s.1) = b
      · rw [if_pos c] at h; exact absurd h (by show ¬ 2 = 0; decide)
      · rw [if_neg c]
        exact ⟨z, by omega, ⟨Nat.le_of_not_lt (fun q => c (Or.inl q)), Nat.le_of_not_lt (fun q => c (Or.inr (Or.inl q)))⟩, fun q => c (Or.inr (Or.inr q)), rfl⟩
  · rw [pNm_dead z] at h; exact absurd h z
theorem pSg_b {T : Nat → Nat} {t c : Nat} {s : PS} (h : s.1 ≤ t ∧ s.2 ≤ 3) : (pSg T t c s).1 ≤ t ∧ (pSg T t c s).2 ≤ 3 := by
  unfold pSg
  split
  · split
    · next a => exact ⟨a.1, Nat.zero_le _⟩
    · exact ⟨h.1, by show 1 ≤ 3; decide⟩
  · exact h
theorem pNm_b {T : Nat → Nat} {t lo hi : Nat} {b : Int32} {s : PS} (h : s.1 ≤ t ∧ s.2 ≤ 3) : (pNm T t lo hi b s).1 ≤ t ∧ (pNm T t lo hi b s).2 ≤ 3 := by
  unfold pNm
  split
  · split
    · exact ⟨h.1, by show 1 ≤ 3; decide⟩
    · split
      · exact ⟨h.1, by show 2 ≤ 3; decide⟩
      · exact ⟨figN_le h.1, Nat.zero_le _⟩
  · exact h
theorem pBd_b {t k : Nat} {s : PS} (hk : k ≤ 3) (h : s.1 ≤ t ∧ s.2 ≤ 3) : (pBd k s).1 ≤ t ∧ (pBd k s).2 ≤ 3 := by
  unfold pBd
  split
  · exact ⟨h.1, hk⟩
  · exact h
theorem pBd_ok {k : Nat} {s : PS} (hk : k ≠ 0) : ¬ (pBd k s).2 = 0 := by
  by_cases z : s.2 = 0
  · rw [pBd, if_pos z]; exact hk
  · rw [pBd_dead z]; exact z
section ReadC
variable {T : Nat → Nat} {t : Nat} {I : Nat → Nat → Int32} {D : Nat → Nat → Option Nat} {K : Nat → Nat} {n : Nat} {Z : Nat → Cl} {s : PS}
theorem Cs.keep {I' : Nat → Nat → Int32} (h : Cs T t I s) (e2 : I' 2 = I 2) (e3 : I' 3 = I 3) : Cs T t I' s := by
  unfold Cs; rw [e2, e3]; exact h
theorem c_fail (h : Cs T t I s) (x : Int32) (k : Nat) (hx : x = nI k) (hk : k ≤ 3) : ∃ I', f_X7_fail (enc I D K n Z) 2 x = some (enc I' D K n Z) ∧ Cs T t I' (pBd k s) ∧ ∀ x, x ≠ 2 → I' x = I x := by
  have h' := h
  obtain ⟨h1, h2, h3, h4, h5, h6⟩ := h'
  have e4 : (nI s.2 = (0 : Int32)) = (s.2 = 0) := z_eq (by omega) (by decide)
  simp only [f_X7_fail, g2_4, bA_s, h3, e4, pBd]
  by_cases z : s.2 = 0
  · simp only [if_pos z, p2_4, bA_s]
    refine ⟨_, rfl, ⟨?_, ?_, ?_, ?_, h5, hk⟩, fun x hx => va_up_ne _ _ hx⟩
    · rw [va_up_self, pk_un (by decide)]; exact h1
    · rw [va_up_self, pk_un (by decide)]; exact h2
    · rw [va_up_self, pk_us, hx]
    · intro j hj; rw [va_up_ne _ _ (by decide)]; exact h4 j hj
  · simp only [if_neg z, bA_s]
    exact ⟨I, rfl, h, fun _ _ => rfl⟩
theorem c_here (ht : TO T t) (h : Cs T t I s) : f_X7_signHere (enc I D K n Z) 2 = some (if s.1 < t then nI (T s.1) else -1, enc I D K n Z) := by
  obtain ⟨h1, h2, h3, h4, h5, h6⟩ := h
  have t1 := ht.1
  have e : (nI t ≤ nI s.1) = (t ≤ s.1) := z_le (by omega) (by omega)
  simp only [f_X7_signHere, g2_3, g2_2, bA_s, h1, h2, e]
  by_cases z : s.1 < t
  · simp only [if_neg (show ¬ t ≤ s.1 by omega), if_pos z, r2_0, g2_3, h2, bA_s, l3 s.1 (show s.1 < 110 by omega), h4 _ z]
  · simp only [if_pos (show t ≤ s.1 by omega), if_neg z, bA_s]
theorem m1_ne (c : Nat) (hc : c < 2 ^ 31) : ¬ (-1 : Int32) = nI c := fun q => by
  have := congrArg Int32.toInt q
  rw [toInt_nI hc, show (-1 : Int32).toInt = -1 by decide] at this
  omega
theorem c_sees (ht : TO T t) (h : Cs T t I s) (x : Int32) (c : Nat) (hx : x = nI c) (hc : c ≤ 255) : f_X7_sees (enc I D K n Z) 2 x = some (if s.1 < t ∧ T s.1 = c then 1 else 0, enc I D K n Z) := by
  subst hx
  simp only [f_X7_sees, c2, bA_s, c_here ht h, b2_s]
  by_cases z : s.1 < t
  · have e : (nI (T s.1) = nI c) = (T s.1 = c) := z_eq (by have := ht.2 _ z; omega) (by omega)
    simp only [if_pos z, e]
    by_cases y : T s.1 = c
    · simp only [if_pos y, bA_s, bz1, if_pos (show s.1 < t ∧ T s.1 = c from ⟨z, y⟩)]
    · simp only [if_neg y, bA_s, bz0, if_neg (show ¬ (s.1 < t ∧ T s.1 = c) from fun q => y q.2)]
  · simp only [if_neg z, if_neg (m1_ne c (by omega)), bA_s, bz0, if_neg (show ¬ (s.1 < t ∧ T s.1 = c) from fun q => z q.1)]
theorem c_sort (ht : TO T t) (h : Cs T t I s) : f_X7_sortSeen (enc I D K n Z) 2 = some (nI (ksN T t s.1), enc I D K n Z) := by
  simp only [f_X7_sortSeen, c2, bA_s, c_here ht h, b2_s, ksN]
  by_cases z : s.1 < t
  · have q := ht.2 _ z
    have e98 : (nI (T s.1) = (98 : Int32)) = (T s.1 = 98) := z_eq (m := 98) (by omega) (by decide)
    have e99 : (nI (T s.1) = (99 : Int32)) = (T s.1 = 99) := z_eq (m := 99) (by omega) (by decide)
    have e107 : (nI (T s.1) = (107 : Int32)) = (T s.1 = 107) := z_eq (m := 107) (by omega) (by decide)
    have e108 : (nI (T s.1) = (108 : Int32)) = (T s.1 = 108) := z_eq (m := 108) (by omega) (by decide)
    have e115 : (nI (T s.1) = (115 : Int32)) = (T s.1 = 115) := z_eq (m := 115) (by omega) (by decide)
    simp only [if_pos z, e98, e99, e107, e108, e115, kb]
    by_cases a : T s.1 = 98
    · rw [if_pos a, if_pos a] <;> rfl
    · rw [if_neg a, if_neg a]
      by_cases b : T s.1 = 99
      · rw [if_pos b, if_pos b] <;> rfl
      · rw [if_neg b, if_neg b]
        by_cases c : T s.1 = 107
        · rw [if_pos c, if_pos c] <;> rfl
        · rw [if_neg c, if_neg c]
          by_cases d : T s.1 = 108
          · rw [if_pos d, if_pos d] <;> rfl
          · rw [if_neg d, if_neg d]
            by_cases e : T s.1 = 115
            · rw [if_pos e, if_pos e] <;> rfl
            · rw [if_neg e, if_neg e] <;> rfl
  · simp only [if_neg z, if_neg (show ¬ (-1 : Int32) = 98 by decide), if_neg (show ¬ (-1 : Int32) = 99 by decide), if_neg (show ¬ (-1 : Int32) = 107 by decide), if_neg (show ¬ (-1 : Int32) = 108 by decide), if_neg (show ¬ (-1 : Int32) = 115 by decide)] <;> rfl
theorem c_sign (ht : TO T t) (h : Cs T t I s) (x : Int32) (c : Nat) (hx : x = nI c) (hc : c ≤ 255) : ∃ I', f_X7_readSign (enc I D K n Z) 2 x = some (enc I' D K n Z) ∧ Cs T t I' (pSg T t c s) ∧ ∀ x, x ≠ 2 → I' x = I x := by
  have h' := h
  have t1 := ht.1
  obtain ⟨h1, h2, h3, h4, h5, h6⟩ := h'
  have e4 : (nI s.2 = (0 : Int32)) = (s.2 = 0) := z_eq (by omega) (by decide)
  have e : (nI t ≤ nI s.1) = (t ≤ s.1) := z_le (by omega) (by omega)
  simp only [f_X7_readSign, g2_4, bA_s, h3, e4]
  by_cases z : s.2 = 0
  · obtain ⟨J, j1, j2, j3⟩ := c_fail (D := D) (K := K) (n := n) (Z := Z) h (1 : Int32) 1 rfl (by decide)
    rw [pBd, if_pos z] at j2
    simp only [if_pos z, g2_3, g2_2, bA_s, h1, h2, e, pSg]
    by_cases y : s.1 < t
    · simp only [if_neg (show ¬ t ≤ s.1 by omega), c2, bA_s, c_sees ht h x c hx hc, b2_s]
      by_cases w : T s.1 = c
      · simp only [if_pos (show s.1 < t ∧ T s.1 = c from ⟨y, w⟩), if_neg one0, g2_3, h2, bA_s, p2_3, z_i2]
        refine ⟨_, rfl, ⟨?_, ?_, ?_, ?_, y, Nat.zero_le _⟩, fun x hx => va_up_ne _ _ hx⟩
        · rw [va_up_self, pk_un (by decide)]; exact h1
        · rw [va_up_self, pk_us]
        · rw [va_up_self, pk_un (by decide), h3, z]
        · intro j hj; rw [va_up_ne _ _ (by decide)]; exact h4 j hj
      · simp only [if_neg (show ¬ (s.1 < t ∧ T s.1 = c) from fun q => w q.2), if_true, c2, bA_s, j1]
        exact ⟨J, rfl, j2, j3⟩
    · simp only [if_pos (show t ≤ s.1 by omega), c2, bA_s, j1, if_neg (show ¬ (s.1 < t ∧ T s.1 = c) from fun q => y q.1)]
      exact ⟨J, rfl, j2, j3⟩
  · simp only [if_neg z, pSg]
    exact ⟨I, rfl, h, fun _ _ => rfl⟩
theorem c_fig_L (ht : TO T t) (h : Cs T t I s) {β : Type} (kk : Int32 → Int32 → Hp → Option β) : ∀ (c fuel p m : Nat), p + c = t → c < fuel → f_X7_figures_L7 kk 2 fuel (enc I D K n Z) (nI m) (nI p) = kk (nI (m + fgN T c p)) (nI (p + fgN T c p)) (enc I D K n Z) := by
  obtain ⟨h1, h2, h3, h4, h5, h6⟩ := h
  have t1 := ht.1
  intro c
  induction c with
  | zero =>
    intro fuel p m hp hf
    obtain ⟨f, rfl⟩ : ∃ f, fuel = f + 1 := ⟨fuel - 1, by omega⟩
    rw [f_X7_figures_L7, g2_2, bA_s, h1, if_pos (nI_le (show t ≤ p by omega) (by omega)), fgN, Nat.add_zero, Nat.add_zero]
  | succ c ih =>
    intro fuel p m hp hf
    obtain ⟨f, rfl⟩ : ∃ f, fuel = f + 1 := ⟨fuel - 1, by omega⟩
    have hT := ht.2 p (by omega)
    have l : ald (enc I D K n Z) 3 0 (nI p) = some (nI (T p)) := by rw [l3 p (by omega), h4 p (by omega)]
    have e48 : (nI (T p) < (48 : Int32)) = (T p < 48) := z_lt (m := 48) (by omega) (by decide)
    have e57 : ((57 : Int32) < nI (T p)) = (57 < T p) := z_lt (k := 57) (by decide) (by omega)
    rw [f_X7_figures_L7, g2_2, bA_s, h1, if_neg (nI_ge (show p < t by omega) (by omega)), fgN]
    simp only [r2_0, bA_s, l, e48, e57]
    by_cases a : T p < 48
    · simp only [if_pos a, if_neg (show ¬ (48 ≤ T p ∧ T p ≤ 57) by omega), Nat.add_zero]
    · by_cases b : 57 < T p
      · simp only [if_neg a, if_pos b, if_neg (show ¬ (48 ≤ T p ∧ T p ≤ 57) by omega), Nat.add_zero]
      · simp only [if_neg a, if_neg b, if_pos (show 48 ≤ T p ∧ T p ≤ 57 by omega), z_i2]
        rw [ih f (p + 1) (m + 1) (by omega) (by omega), show m + 1 + fgN T c (p + 1) = m + (fgN T c (p + 1) + 1) by omega, show p + 1 + fgN T c (p + 1) = p + (fgN T c (p + 1) + 1) by omega]
theorem c_fig (ht : TO T t) (h : Cs T t I s) : f_X7_figures (enc I D K n Z) 2 = some (nI (figN T t s.1), enc I D K n Z) := by
  have t1 := ht.1
  have h5 := h.2.2.2.2.1
  have q := c_fig_L (D := D) (K := K) (n := n) (Z := Z) ht h (fun y17 y18 h16 => some (y17, h16)) (t - s.1) 2000 s.1 0 (by omega) (by omega)
  rw [Nat.zero_add] at q
  simp only [f_X7_figures, g2_3, bA_s, h.2.1]
  exact q
theorem c_num_L (ht : TO T t) (h : Cs T t I s) {β : Type} (kk : Int32 → Int32 → Hp → Option β) (x1 x2 x3 : Int32) (m : Nat) (hm : m = 1 ∨ m = 2) (hl : s.1 + m ≤ t) (hd : ∀ j, j < m → 48 ≤ T (s.1 + j)) : f_X7_readNumber_L43 kk 2 x1 x2 x3 (nI m) 2000 (enc I D K n Z) (0 : Int32) (nI s.1) = kk (nI (if m = 1 then T s.1 - 48 else 10 * (T s.1 - 48) + (T (s.1 + 1) - 48))) (nI (s.1 + m)) (enc I D K n Z) := by
  obtain ⟨h1, h2, h3, h4, h5, h6⟩ := h
  have t1 := ht.1
  have step : ∀ f k v, k < m → f_X7_readNumber_L43 kk 2 x1 x2 x3 (nI m) (f + 1) (enc I D K n Z) (nI v) (nI (s.1 + k)) = f_X7_readNumber_L43 kk 2 x1 x2 x3 (nI m) f (enc I D K n Z) (nI (v * 10 + (T (s.1 + k) - 48))) (nI (s.1 + k + 1)) := by
    intro f k v hk
    have l : ald (enc I D K n Z) 3 0 (nI (s.1 + k)) = some (nI (T (s.1 + k))) := by rw [l3 _ (by omega), h4 _ (by omega)]
    have hdk := hd k hk
    have e1 : nI v * (10 : Int32) = nI (v * 10) := pk_mul v 10
    have e2 : nI (v * 10 + T (s.1 + k)) - (48 : Int32) = nI (v * 10 + T (s.1 + k) - 48) := pk_sub (b := 48) (by omega)
    rw [f_X7_readNumber_L43, g2_3, bA_s, h2, nI_add, if_neg (nI_ge (show s.1 + k < s.1 + m by omega) (by omega)), r2_0, bA_s, l, bA_s, e1, nI_add, e2, z_i2, show v * 10 + T (s.1 + k) - 48 = v * 10 + (T (s.1 + k) - 48) by omega]
  have stop : ∀ f v, f_X7_readNumber_L43 kk 2 x1 x2 x3 (nI m) (f + 1) (enc I D K n Z) v (nI (s.1 + m)) = kk v (nI (s.1 + m)) (enc I D K n Z) := by
    intro f v
    rw [f_X7_readNumber_L43, g2_3, bA_s, h2, nI_add, if_pos (nI_le (Nat.le_refl _) (by omega))]
  rcases hm with rfl | rfl
  · have s0 := step 1999 0 0 (by omega)
    rw [Nat.add_zero, Nat.zero_mul, Nat.zero_add] at s0
    rw [if_pos rfl]
    exact s0.trans (stop 1998 _)
  · have s0 := step 1999 0 0 (by omega)
    have s1 := step 1998 1 (T s.1 - 48) (by omega)
    rw [Nat.add_zero, Nat.zero_mul, Nat.zero_add] at s0
    rw [if_neg (by decide), Nat.mul_comm 10]
    exact s0.trans (s1.trans (stop 1997 _))
theorem c_num (ht : TO T t) (h : Cs T t I s) (x1 x2 x3 : Int32) (lo hi : Nat) (e1 : x1 = nI lo) (e2 : x2 = nI hi) (hlo : lo ≤ 255) (hhi : hi ≤ 255) : ∃ y I', f_X7_readNumber (enc I D K n Z) 2 x1 x2 x3 = some (y, enc I' D K n Z) ∧ Cs T t I' (pNm T t lo hi x3 s) ∧ (∀ x, x ≠ 2 → I' x = I x) ∧ ((pNm T t lo hi x3 s).2 = 0 → y = nI (nvN T t s.1)) := by
  have h' := h
  have t1 := ht.1
  obtain ⟨h1, h2, h3, h4, h5, h6⟩ := h'
  have e4 : (nI s.2 = (0 : Int32)) = (s.2 = 0) := z_eq (by omega) (by decide)
  by_cases z : s.2 = 0
  · have hf := figN_le (T := T) h5
    have em1 : (nI (figN T t s.1) < (1 : Int32)) = (figN T t s.1 < 1) := z_lt (m := 1) (by omega) (by decide)
    have em2 : (nI (figN T t s.1) ≤ (2 : Int32)) = (figN T t s.1 ≤ 2) := z_le (m := 2) (by omega) (by decide)
    obtain ⟨J1, j1, j2, j3⟩ := c_fail (D := D) (K := K) (n := n) (Z := Z) h (1 : Int32) 1 rfl (by decide)
    obtain ⟨J2, k1, k2, k3⟩ := c_fail (D := D) (K := K) (n := n) (Z := Z) h (2 : Int32) 2 rfl (by decide)
    rw [pBd, if_pos z] at j2 k2
    simp only [f_X7_readNumber, g2_4, bA_s, h3, e4, if_pos z, c2, c_fig ht h, b2_s, em1, em2]
    by_cases a : figN T t s.1 < 1
    · have e : pNm T t lo hi x3 s = (s.1, 1) := by rw [pNm, if_pos z, if_pos (Or.inl a)]
      rw [e]
      simp only [if_pos a, c2, bA_s, j1]
      exact ⟨_, J1, rfl, j2, j3, fun q => absurd q (by show ¬ 1 = 0; decide)⟩
    · by_cases b : figN T t s.1 ≤ 2
      · have hv := nvN_le (T := T) (t := t) (p := s.1) (by omega) b
        have ev : nvN T t s.1 = if figN T t s.1 = 1 then T s.1 - 48 else 10 * (T s.1 - 48) + (T (s.1 + 1) - 48) := rfl
        simp only [if_neg a, if_pos b, g2_3, h2, bA_s]
        rw [c_num_L ht h _ x1 x2 x3 (figN T t s.1) (by omega) hf (fun j hj => (figN_dig hj).1), ← ev]
        have c1 : (nI (nvN T t s.1) < x1) = (nvN T t s.1 < lo) := by rw [e1]; exact z_lt (by omega) (by omega)
        have c2' : (x2 < nI (nvN T t s.1)) = (hi < nvN T t s.1) := by rw [e2]; exact z_lt (by omega) (by omega)
        have n0 : ¬ (figN T t s.1 < 1 ∨ 2 < figN T t s.1) := by omega
        simp only [c1, c2']
        by_cases c : nvN T t s.1 < lo
        · have e : pNm T t lo hi x3 s = (s.1, 2) := by rw [pNm, if_pos z, if_neg n0, if_pos (Or.inl c)]
          rw [e]
          simp only [if_pos c, c2, bA_s, k1]
          exact ⟨_, J2, rfl, k2, k3, fun q => absurd q (by show ¬ 2 = 0; decide)⟩
        · by_cases d : hi < nvN T t s.1
          · have e : pNm T t lo hi x3 s = (s.1, 2) := by rw [pNm, if_pos z, if_neg n0, if_pos (Or.inr (Or.inl d))]
            rw [e]
            simp only [if_neg c, if_pos d, c2, bA_s, k1]
            exact ⟨_, J2, rfl, k2, k3, fun q => absurd q (by show ¬ 2 = 0; decide)⟩
          · by_cases g : nI (nvN T t s.1) = x3
            · have e : pNm T t lo hi x3 s = (s.1, 2) := by rw [pNm, if_pos z, if_neg n0, if_pos (Or.inr (Or.inr g))]
              rw [e]
              simp only [if_neg c, if_neg d, if_pos g, c2, bA_s, k1]
              exact ⟨_, J2, rfl, k2, k3, fun q => absurd q (by show ¬ 2 = 0; decide)⟩
            · have e : pNm T t lo hi x3 s = (s.1 + figN T t s.1, 0) := by rw [pNm, if_pos z, if_neg n0, if_neg (fun q => q.elim c (fun q => q.elim d g))]
              rw [e]
              simp only [if_neg c, if_neg d, if_neg g, g2_3, h2, bA_s, p2_3, nI_add]
              refine ⟨_, _, rfl, ⟨?_, ?_, ?_, ?_, hf, Nat.zero_le _⟩, fun x hx => va_up_ne _ _ hx, fun _ => rfl⟩
              · rw [va_up_self, pk_un (by decide)]; exact h1
              · rw [va_up_self, pk_us]
              · rw [va_up_self, pk_un (by decide), h3, z]
              · intro j hj; rw [va_up_ne _ _ (by decide)]; exact h4 j hj
      · have e : pNm T t lo hi x3 s = (s.1, 1) := by rw [pNm, if_pos z, if_pos (Or.inr (by omega))]
        rw [e]
        simp only [if_neg a, if_neg b, c2, bA_s, j1]
        exact ⟨_, J1, rfl, j2, j3, fun q => absurd q (by show ¬ 1 = 0; decide)⟩
  · rw [pNm_dead z]
    simp only [f_X7_readNumber, g2_4, bA_s, h3, e4, if_neg z]
    exact ⟨_, I, rfl, h, fun _ _ => rfl, fun q => absurd q z⟩
end ReadC
