/-! A HOUSE BECOMES ANOTHER -/
theorem isH_dis {a b : Nat} (ha : isH a) (hb : isH b) (h : a ≠ b) : a + 3 < b ∨ b + 3 < a := by
  rcases ha with rfl | rfl | rfl | ⟨h1, h2, h3⟩ <;> rcases hb with rfl | rfl | rfl | ⟨g1, g2, g3⟩ <;> omega
theorem isH_lt {a : Nat} (ha : isH a) : a < 162 ∧ a + 3 < 177 := by
  rcases ha with rfl | rfl | rfl | ⟨h1, h2, h3⟩ <;> omega
/-- the house at a is now what the one at b was -/
def HF (I : Nat → Nat → Int32) (D : Nat → Nat → Option Nat) (I' : Nat → Nat → Int32) (D' : Nat → Nat → Option Nat) (a b : Nat) : Prop := (∀ j, 3 ≤ j → j ≤ 8 → I' a j = I b j) ∧ (∀ k, k < 8 → I' (a + 1) k = I (b + 1) k) ∧ (∀ k, k < 8 → I' (a + 2) k = I (b + 2) k) ∧ (∀ k, k < 8 → D' (a + 3) k = D (b + 3) k)
/-- doors are kept -/
def DK (I : Nat → Nat → Int32) (K : Nat → Nat) (n : Nat) (I' : Nat → Nat → Int32) (K' : Nat → Nat) (n' : Nat) : Prop := n ≤ n' ∧ ∀ q, 177 ≤ q → q < 177 + n → I' q = I q ∧ K' q = K q
theorem DK.rfl' {I : Nat → Nat → Int32} {K : Nat → Nat} {n : Nat} : DK I K n I K n := ⟨Nat.le_refl _, fun _ _ _ => ⟨rfl, rfl⟩⟩
theorem DK.of {I I' : Nat → Nat → Int32} {K : Nat → Nat} {n : Nat} (h : ∀ q, 177 ≤ q → I' q = I q) : DK I K n I' K n := ⟨Nat.le_refl _, fun q hq _ => ⟨h q hq, rfl⟩⟩
theorem DK.trans {I I' J : Nat → Nat → Int32} {K K' L : Nat → Nat} {n n' m : Nat} (h : DK I K n I' K' n') (g : DK I' K' n' J L m) : DK I K n J L m := ⟨Nat.le_trans h.1 g.1, fun q h1 h2 => by
  have a := h.2 q h1 h2
  have b := g.2 q h1 (by have := h.1; omega)
  exact ⟨b.1.trans a.1, b.2.trans a.2⟩⟩
theorem isDr.more {I I' : Nat → Nat → Int32} {K K' : Nat → Nat} {n n' q : Nat} (h : isDr K n q) (g : DK I K n I' K' n') : isDr K' n' q := ⟨h.1, by have := h.2.1; have := g.1; omega, by rw [(g.2 q h.1 h.2.1).2]; exact h.2.2⟩
theorem DR.more {I I' : Nat → Nat → Int32} {K K' : Nat → Nat} {n n' q k : Nat} {r : Ro} (h : DR I K n q k r) (g : DK I K n I' K' n') : DR I' K' n' q k r := by
  obtain ⟨h1, h2, h3, h4, h5, h6⟩ := h
  have e := g.2 q h1.1 h1.2.1
  exact ⟨h1.more g, by rw [e.2]; exact h2, by rw [e.1]; exact h3, by rw [e.1]; exact h4, by rw [e.1]; exact h5, by rw [e.1]; exact h6⟩
theorem CH.move {I I' : Nat → Nat → Int32} {D D' : Nat → Nat → Option Nat} {K K' : Nat → Nat} {n n' a b : Nat} {r : Ro} (h : CH I D K n b r) (h1 : r 1 ≤ 8) (h0 : r 0 ≤ 8) (hf : HF I D I' D' a b) (g : DK I K n I' K' n') : CH I' D' K' n' a r := by
  obtain ⟨⟨a3, a4, a5, a6, a7, a8⟩, b1, b2, b3⟩ := h
  obtain ⟨f1, f2, f3, f4⟩ := hf
  refine ⟨⟨?_, ?_, ?_, ?_, ?_, ?_⟩, ?_, ?_, ?_⟩
  · rw [f1 3 (by decide) (by decide)]; exact a3
  · rw [f1 4 (by decide) (by decide)]; exact a4
  · rw [f1 5 (by decide) (by decide)]; exact a5
  · rw [f1 6 (by decide) (by decide)]; exact a6
  · rw [f1 7 (by decide) (by decide)]; exact a7
  · rw [f1 8 (by decide) (by decide)]; exact a8
  · intro k hk; rw [f2 k (by omega)]; exact b1 k hk
  · intro k hk; rw [f3 k (by omega)]; exact b2 k hk
  · intro k hk
    obtain ⟨q, e1, e2⟩ := b3 k hk
    exact ⟨q, by rw [f4 k (by omega)]; exact e1, e2.more g⟩
theorem HF.self {I I' : Nat → Nat → Int32} {D D' : Nat → Nat → Option Nat} {a : Nat} (h : I' a = I a) (h1 : I' (a + 1) = I (a + 1)) (h2 : I' (a + 2) = I (a + 2)) (h3 : D' (a + 3) = D (a + 3)) : HF I D I' D' a a := ⟨fun j _ _ => by rw [h], fun k _ => by rw [h1], fun k _ => by rw [h2], fun k _ => by rw [h3]⟩
theorem HF.trans {I I' J : Nat → Nat → Int32} {D D' E : Nat → Nat → Option Nat} {a b c : Nat} (h : HF I D I' D' b c) (g : HF I' D' J E a b) : HF I D J E a c := ⟨fun j h1 h2 => (g.1 j h1 h2).trans (h.1 j h1 h2), fun k hk => (g.2.1 k hk).trans (h.2.1 k hk), fun k hk => (g.2.2.1 k hk).trans (h.2.2.1 k hk), fun k hk => (g.2.2.2 k hk).trans (h.2.2.2 k hk)⟩
/-- every house's doors are doors -/
def DV (D : Nat → Nat → Option Nat) (K : Nat → Nat) (n : Nat) : Prop := ∀ a, isH a → ∀ k q, k < 8 → D (a + 3) k = some q → isDr K n q
section Become
variable {I : Nat → Nat → Int32} {D : Nat → Nat → Option Nat} {K : Nat → Nat} {n : Nat} {Z : Nat → Cl} {a b : Nat}
theorem acpy_n {n0 n1 : Nat} (h0 : shp K n a = some (.inr (.inl (0, n0)))) (h1 : shp K n b = some (.inr (.inl (0, n1)))) {sp dp m : Nat} (hs : sp + m ≤ n0) (hd : dp + m ≤ n1) (hn0 : n0 < 2 ^ 31) (hn1 : n1 < 2 ^ 31) : acpy (enc I D K n Z) a (nI sp) b (nI dp) (nI m) = some (enc (va_up I b (va_cpy (I a) (I b) sp dp m)) D K n Z) := by
  unfold acpy
  rw [gA_e h0, gA_e h1]
  show (if _ then none else _) = _
  rw [nI_clamp (show sp < 2 ^ 31 by omega), nI_clamp (show dp < 2 ^ 31 by omega), nI_clamp (show m < 2 ^ 31 by omega), if_neg, up_row h1]
  rw [z_neg (show sp < 2 ^ 31 by omega), z_neg (show dp < 2 ^ 31 by omega), z_neg (show m < 2 ^ 31 by omega)]
  simp only [false_or]
  omega
set_option maxRecDepth 100000 in
set_option maxHeartbeats 4000000 in
theorem c_become (ha : isH a) (hb : isH b) (hab : a ≠ b) (hD : DV D K n) : ∃ I' D', f_X3_become (enc I D K n Z) a b = some (enc I' D' K n Z) ∧ HF I D I' D' a b ∧ (∀ x, x ≠ a → x ≠ a + 1 → x ≠ a + 2 → I' x = I x) ∧ (∀ x, x ≠ a + 3 → D' x = D x) ∧ DV D' K n := by
  have hdis := isH_dis ha hb hab
  have e0 : ∀ (J : Nat → Nat → Int32) (E : Nat → Nat → Option Nat) (x y : Nat), shp K n x = some (.inr (.inl (0, 8))) → shp K n y = some (.inr (.inl (0, 8))) → acpy (enc J E K n Z) x (0 : Int32) y (0 : Int32) (8 : Int32) = some (enc (va_up J y (va_cpy (J x) (J y) 0 0 8)) E K n Z) := fun J E x y hx hy => acpy_n (sp := 0) (dp := 0) (m := 8) hx hy (by decide) (by decide) (by decide) (by decide)
  have hc : ∀ (f g : Nat → Int32) (k : Nat), k < 8 → va_cpy f g 0 0 8 k = f k := fun f g k hk => by
    unfold va_cpy
    rw [if_pos (by omega)]
    congr 1
    omega
  simp only [f_X3_become, gN_e (s_H ha) 0 rfl, gN_e (s_H hb) 0 rfl, gN_e (s_H ha) 1 rfl, gN_e (s_H hb) 1 rfl, bA_s, e0 _ _ _ _ (s_H1 hb) (s_H1 ha), e0 _ _ _ _ (s_H2 hb) (s_H2 ha)]
  generalize hI1 : va_up I (a + 1) (va_cpy (I (b + 1)) (I (a + 1)) 0 0 8) = I1
  have f1 : ∀ x, x ≠ a + 1 → I1 x = I x := fun x hx => by rw [← hI1, va_up_ne _ _ hx]
  have f1a : ∀ k, k < 8 → I1 (a + 1) k = I (b + 1) k := fun k hk => by rw [← hI1, va_up_self, hc _ _ k hk]
  generalize hI2 : va_up I1 (a + 2) (va_cpy (I1 (b + 2)) (I1 (a + 2)) 0 0 8) = I2
  have f2 : ∀ x, x ≠ a + 2 → I2 x = I1 x := fun x hx => by rw [← hI2, va_up_ne _ _ hx]
  have f2a : ∀ k, k < 8 → I2 (a + 2) k = I (b + 2) k := fun k hk => by rw [← hI2, va_up_self, hc _ _ k hk, f1 _ (by omega)]
  obtain ⟨D2, l1, l2, l3⟩ := c_become_L (I := I2) (Z := Z) (D := D) ha hb (fun k q hk hq => hD b hb k q hk hq) (fun y23 h22 => bA (gI h22 b 2 3) fun g25 => bA (pV h22 a 2 3 (.inl g25)) fun h27 => bA (gI h27 b 2 4) fun g29 => bA (pV h27 a 2 4 (.inl g29)) fun h31 => bA (gI h31 b 2 5) fun g33 => bA (pV h31 a 2 5 (.inl g33)) fun h35 => bA (gI h35 b 2 6) fun g37 => bA (pV h35 a 2 6 (.inl g37)) fun h39 => bA (gI h39 b 2 7) fun g41 => bA (pV h39 a 2 7 (.inl g41)) fun h43 => bA (gI h43 b 2 8) fun g45 => bA (pV h43 a 2 8 (.inl g45)) fun h47 => some h47) 8 2000 0 D (by omega) (by omega) (fun _ _ => rfl) (fun _ _ => rfl) (fun k hk => absurd hk (Nat.not_lt_zero k))
  rw [show nI 0 = (0 : Int32) by decide] at l1
  rw [l1]
  have hba : b ≠ a := Ne.symm hab
  simp only [gI_e (s_H hb) 3 rfl, gI_e (s_H hb) 4 rfl, gI_e (s_H hb) 5 rfl, gI_e (s_H hb) 6 rfl, gI_e (s_H hb) 7 rfl, gI_e (s_H hb) 8 rfl, pV_e (s_H ha) 3 rfl, pV_e (s_H ha) 4 rfl, pV_e (s_H ha) 5 rfl, pV_e (s_H ha) 6 rfl, pV_e (s_H ha) 7 rfl, pV_e (s_H ha) 8 rfl, bA_s, bx_uu, va_up_self, va_up_ne _ _ hba]
  generalize hR : upd (upd (upd (upd (upd (upd (I2 a) 3 (I2 b 3)) 4 (I2 b 4)) 5 (I2 b 5)) 6 (I2 b 6)) 7 (I2 b 7)) 8 (I2 b 8) = R
  have hR3 : ∀ j, 3 ≤ j → j ≤ 8 → R j = I2 b j := by
    intro j h1 h2
    rw [← hR]
    rcases (show j = 3 ∨ j = 4 ∨ j = 5 ∨ j = 6 ∨ j = 7 ∨ j = 8 by omega) with rfl | rfl | rfl | rfl | rfl | rfl <;> rfl
  refine ⟨_, D2, rfl, ⟨?_, ?_, ?_, l3⟩, ?_, l2, ?_⟩
  · intro j h1 h2
    rw [va_up_self, hR3 j h1 h2, f2 b (by omega), f1 b (by omega)]
  · intro k hk
    rw [va_up_ne _ _ (by omega), f2 _ (by omega)]; exact f1a k hk
  · intro k hk
    rw [va_up_ne _ _ (by omega)]; exact f2a k hk
  · intro x h1 h2 h3
    rw [va_up_ne _ _ h1, f2 x h3, f1 x h2]
  · intro c hc' k q hk hq
    by_cases e : c = a
    · subst e; rw [l3 k hk] at hq; exact hD b hb k q hk hq
    · rw [l2 (c + 3) (by omega)] at hq; exact hD c hc' k q hk hq
theorem m_lay_L {β : Type} (kk : Int32 → Hp → Option β) : ∀ (m fuel j : Nat) (I : Nat → Nat → Int32), j + m = 54 → m < fuel → ∃ I', f_X12_layThen_L2 kk 162 fuel (enc I D K n Z) (nI j) = kk (nI 54) (enc I' D K n Z) ∧ (∀ x, x ≠ 168 → I' x = I x) ∧ (∀ i, i < j → I' 168 i = I 168 i) ∧ (∀ i, j ≤ i → i < 54 → I' 168 i = I 166 i) := by
  intro m
  induction m with
  | zero =>
    intro fuel j I hj hf
    obtain ⟨f, rfl⟩ : ∃ f, fuel = f + 1 := ⟨fuel - 1, by omega⟩
    have e : j = 54 := by omega
    subst e
    exact ⟨I, by rw [f_X12_layThen_L2, if_pos (show (54 : Int32) ≤ nI 54 by decide)], fun _ _ => rfl, fun _ _ => rfl, fun i h1 h2 => by omega⟩
  | succ m ih =>
    intro fuel j I hj hf
    obtain ⟨f, rfl⟩ : ∃ f, fuel = f + 1 := ⟨fuel - 1, by omega⟩
    have e8 : ¬ (54 : Int32) ≤ nI j := nI_ge (b := 54) (by omega) (by decide)
    rw [f_X12_layThen_L2, if_neg e8]
    simp only [r162_7, r162_5, bA_s, ald_n s_166 j (show j < 54 by omega) (by decide), ast_n s_168 j _ (show j < 54 by omega) (by decide), z_i2]
    obtain ⟨I', g1, g2, g3, g4⟩ := ih f (j + 1) (va_up I 168 (upd (I 168) j (I 166 j))) (by omega) (by omega)
    refine ⟨I', g1, ?_, ?_, ?_⟩
    · intro x hx; rw [g2 x hx, va_up_ne _ _ hx]
    · intro i hi; rw [g3 i (by omega), va_up_self, pk_un (by omega)]
    · intro i h1 h2
      by_cases e : i = j
      · subst e; rw [g3 i (by omega), va_up_self, pk_us]
      · rw [g4 i (by omega) h2, va_up_ne _ _ (by decide)]
theorem m_lay {r : Ro} (h : MH (I 166) r) : ∃ I', f_X12_layThen (enc I D K n Z) 162 = some (enc I' D K n Z) ∧ MH (I' 168) r ∧ (∀ x, x ≠ 168 → I' x = I x) := by
  obtain ⟨I', g1, g2, g3, g4⟩ := m_lay_L (D := D) (K := K) (n := n) (Z := Z) (fun y11 h10 => some h10) 54 2000 0 I (by omega) (by omega)
  exact ⟨I', g1, fun j hj => by rw [g4 j (by omega) hj]; exact h j hj, g2⟩
theorem m_keep_L11 {β : Type} (kk : Int32 → Hp → Option β) : ∀ (m fuel j : Nat) (I : Nat → Nat → Int32), j + m = 1242 → m < fuel → ∃ I', f_X12_keep_L11 kk 162 fuel (enc I D K n Z) (nI j) = kk (nI 1242) (enc I' D K n Z) ∧ (∀ x, x ≠ 169 → I' x = I x) ∧ (∀ i, i < j → I' 169 i = I 169 i) ∧ (∀ i, j ≤ i → i < 1242 → I' 169 i = I 169 (i + 54)) := by
  intro m
  induction m with
  | zero =>
    intro fuel j I hj hf
    obtain ⟨f, rfl⟩ : ∃ f, fuel = f + 1 := ⟨fuel - 1, by omega⟩
    have e : j = 1242 := by omega
    subst e
    exact ⟨I, by rw [f_X12_keep_L11, if_pos (show (1242 : Int32) ≤ nI 1242 by decide)], fun _ _ => rfl, fun _ _ => rfl, fun i h1 h2 => by omega⟩
  | succ m ih =>
    intro fuel j I hj hf
    obtain ⟨f, rfl⟩ : ∃ f, fuel = f + 1 := ⟨fuel - 1, by omega⟩
    have e8 : ¬ (1242 : Int32) ≤ nI j := nI_ge (b := 1242) (by omega) (by decide)
    rw [f_X12_keep_L11, if_neg e8]
    simp only [r162_8, bA_s, show (54 : Int32) = nI 54 from rfl, nI_add, ald_n s_169 (j + 54) (show j + 54 < 1296 by omega) (by decide), ast_n s_169 j _ (show j < 1296 by omega) (by decide), z_i2]
    obtain ⟨I', g1, g2, g3, g4⟩ := ih f (j + 1) (va_up I 169 (upd (I 169) j (I 169 (j + 54)))) (by omega) (by omega)
    refine ⟨I', g1, ?_, ?_, ?_⟩
    · intro x hx; rw [g2 x hx, va_up_ne _ _ hx]
    · intro i hi; rw [g3 i (by omega), va_up_self, pk_un (by omega)]
    · intro i h1 h2
      by_cases e : i = j
      · subst e; rw [g3 i (by omega), va_up_self, pk_us]
      · rw [g4 i (by omega) h2, va_up_self, pk_un (by omega)]
theorem m_keep_L51 {β : Type} (kk : Int32 → Hp → Option β) {c : Nat} (hc : c < 24) : ∀ (m fuel j : Nat) (I : Nat → Nat → Int32), j + m = 54 → m < fuel → I 162 9 = nI c → ∃ I', f_X12_keep_L51 kk 162 fuel (enc I D K n Z) (nI j) = kk (nI 54) (enc I' D K n Z) ∧ (∀ x, x ≠ 169 → I' x = I x) ∧ (∀ i, (i < 54 * c + j ∨ 54 * c + 54 ≤ i) → I' 169 i = I 169 i) ∧ (∀ i, j ≤ i → i < 54 → I' 169 (54 * c + i) = I 166 i) := by
  intro m
  induction m with
  | zero =>
    intro fuel j I hj hf h9
    obtain ⟨f, rfl⟩ : ∃ f, fuel = f + 1 := ⟨fuel - 1, by omega⟩
    have e : j = 54 := by omega
    subst e
    exact ⟨I, by rw [f_X12_keep_L51, if_pos (show (54 : Int32) ≤ nI 54 by decide)], fun _ _ => rfl, fun _ _ => rfl, fun i h1 h2 => by omega⟩
  | succ m ih =>
    intro fuel j I hj hf h9
    obtain ⟨f, rfl⟩ : ∃ f, fuel = f + 1 := ⟨fuel - 1, by omega⟩
    have e8 : ¬ (54 : Int32) ≤ nI j := nI_ge (b := 54) (by omega) (by decide)
    rw [f_X12_keep_L51, if_neg e8]
    simp only [r162_8, r162_5, g162_9, h9, bA_s, ald_n s_166 j (show j < 54 by omega) (by decide), show (54 : Int32) = nI 54 from rfl, pk_mul, nI_add, ast_n s_169 (54 * c + j) _ (show 54 * c + j < 1296 by omega) (by decide), z_i2]
    obtain ⟨I', g1, g2, g3, g4⟩ := ih f (j + 1) (va_up I 169 (upd (I 169) (54 * c + j) (I 166 j))) (by omega) (by omega) (by rw [va_up_ne _ _ (by decide)]; exact h9)
    refine ⟨I', g1, ?_, ?_, ?_⟩
    · intro x hx; rw [g2 x hx, va_up_ne _ _ hx]
    · intro i hi; rw [g3 i (by omega), va_up_self, pk_un (by omega)]
    · intro i h1 h2
      by_cases e : i = j
      · subst e; rw [g3 _ (by omega), va_up_self, pk_us]
      · rw [g4 i (by omega) h2, va_up_ne _ _ (by decide)]
/-- the reference keeps an act: c were kept -/
theorem m_keep {c : Nat} (hc : c ≤ 24) (h9 : I 162 9 = nI c) : ∃ I', f_X12_keep (enc I D K n Z) 162 = some (enc I' D K n Z) ∧ (∀ x, x ≠ 169 → x ≠ 162 → I' x = I x) ∧ (∀ j, j ≠ 9 → I' 162 j = I 162 j) ∧ I' 162 9 = nI (if c = 24 then 24 else c + 1) ∧ (∀ i j, j < 54 → i < (if c = 24 then 23 else c) → I' 169 (54 * i + j) = I 169 (54 * (if c = 24 then i + 1 else i) + j)) ∧ (∀ j, j < 54 → I' 169 (54 * (if c = 24 then 23 else c) + j) = I 166 j) := by
  have e24 : (nI c = (24 : Int32)) = (c = 24) := z_eq (by omega) (by decide)
  simp only [f_X12_keep, g162_9, bA_s, h9, e24]
  by_cases h : c = 24
  · simp only [if_pos h]
    subst h
    obtain ⟨I1, g1, g2, g3, g4⟩ := m_keep_L11 (D := D) (K := K) (n := n) (Z := Z) (fun y17 h16 => bA (gI h16 162 11 9) fun g19 => bA (pV h16 162 11 9 (.inl (g19 - (1 : Int32)))) fun h21 => some h21) 1242 2000 0 I (by omega) (by omega)
    rw [show nI 0 = (0 : Int32) by decide] at g1
    rw [g1]
    simp only [g162_9, bA_s, g2 162 (by decide), h9, p162_9, show nI 24 - (1 : Int32) = nI 23 by decide]
    generalize hI2 : va_up I1 162 (upd (I 162) 9 (nI 23)) = I2
    have f2 : ∀ x, x ≠ 162 → I2 x = I1 x := fun x hx => by rw [← hI2, va_up_ne _ _ hx]
    have f2a : I2 162 = upd (I 162) 9 (nI 23) := by rw [← hI2, va_up_self]
    obtain ⟨I3, k1, k2, k3, k4⟩ := m_keep_L51 (D := D) (K := K) (n := n) (Z := Z) (fun y34 h33 => bA (gI h33 162 11 9) fun g36 => bA (pV h33 162 11 9 (.inl (g36 + (1 : Int32)))) fun h38 => some h38) (c := 23) (by decide) 54 2000 0 I2 (by omega) (by omega) (by rw [f2a, pk_us])
    rw [show nI 0 = (0 : Int32) by decide] at k1
    rw [k1]
    simp only [g162_9, bA_s, k2 162 (by decide), f2a, pk_us, p162_9, z_i2]
    refine ⟨_, rfl, ?_, ?_, ?_, ?_, ?_⟩
    · intro x h1 h2; rw [va_up_ne _ _ h2, k2 x h1, f2 x h2, g2 x h1]
    · intro j hj; rw [va_up_self, pk_un hj, pk_un hj]
    · rw [va_up_self, pk_us]
    · intro i j hj hi
      rw [va_up_ne _ _ (by decide), k3 _ (by omega), f2 169 (by decide), g4 _ (by omega) (by omega)]
      congr 1
      omega
    · intro j hj
      rw [va_up_ne _ _ (by decide), k4 j (by omega) hj, f2 166 (by decide), g2 166 (by decide)]
  · simp only [if_neg h, bA_s]
    obtain ⟨I3, k1, k2, k3, k4⟩ := m_keep_L51 (D := D) (K := K) (n := n) (Z := Z) (fun y34 h33 => bA (gI h33 162 11 9) fun g36 => bA (pV h33 162 11 9 (.inl (g36 + (1 : Int32)))) fun h38 => some h38) (c := c) (by omega) 54 2000 0 I (by omega) (by omega) h9
    rw [show nI 0 = (0 : Int32) by decide] at k1
    rw [k1]
    simp only [g162_9, bA_s, k2 162 (by decide), h9, p162_9, z_i2]
    refine ⟨_, rfl, ?_, ?_, ?_, ?_, ?_⟩
    · intro x h1 h2; rw [va_up_ne _ _ h2, k2 x h1]
    · intro j hj; rw [va_up_self, pk_un hj]
    · rw [va_up_self, pk_us]
    · intro i j hj hi
      rw [va_up_ne _ _ (by decide), k3 _ (by omega)]
    · intro j hj
      rw [va_up_ne _ _ (by decide), k4 j (by omega) hj]
end Become
