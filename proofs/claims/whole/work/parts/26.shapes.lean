/-! SHAPES by address, and the rules of each family -/
section Shapes
variable {I : Nat → Nat → Int32} {D : Nat → Nat → Option Nat} {K : Nat → Nat} {n a : Nat} {Z : Nat → Cl}
theorem s_0 : shp K n 0 = some (.inl (10, [some 1, some 2, some 8, some 9, some 13, some 16, some 17, some 24, some 25, some 26, some 28, some 29, none, none, none, none])) := rfl
theorem s_1 : shp K n 1 = some (.inr (.inr (2, 8))) := rfl
theorem s_2 : shp K n 2 = some (.inl (6, [some 3, some 4, none, none, none])) := rfl
theorem s_3 : shp K n 3 = some (.inr (.inl (0, 110))) := rfl
theorem s_8 : shp K n 8 = some (.inl (9, [some 9, some 13, some 15, none, none, none, none, none, none, none, none])) := rfl
theorem s_13 : shp K n 13 = some (.inl (5, [some 14, none])) := rfl
theorem s_14 : shp K n 14 = some (.inr (.inl (0, 17))) := rfl
theorem s_15 : shp K n 15 = some (.inr (.inl (0, 8))) := rfl
theorem s_16 : shp K n 16 = some (.inl (9, [some 17, some 21, some 23, none, none, none, none, none, none, none, none])) := rfl
theorem s_21 : shp K n 21 = some (.inl (5, [some 22, none])) := rfl
theorem s_22 : shp K n 22 = some (.inr (.inl (0, 17))) := rfl
theorem s_23 : shp K n 23 = some (.inr (.inl (0, 8))) := rfl
theorem s_24 : shp K n 24 = some (.inr (.inr (3, 24))) := rfl
theorem s_25 : shp K n 25 = some (.inr (.inr (3, 2))) := rfl
theorem s_26 : shp K n 26 = some (.inl (5, [some 27, none])) := rfl
theorem s_27 : shp K n 27 = some (.inr (.inl (0, 16))) := rfl
theorem s_28 : shp K n 28 = some (.inr (.inr (3, 3))) := rfl
theorem s_29 : shp K n 29 = some (.inr (.inl (0, 3))) := rfl
theorem s_162 : shp K n 162 = some (.inl (11, [none, none, some 163, some 164, some 165, some 166, some 167, some 168, some 169, none, some 170, none, none, none, none, none, none, none, none, some 171, some 172, none, none, none, none, none, some 173, none, some 174, some 175, some 176, none])) := rfl
theorem s_163 : shp K n 163 = some (.inr (.inl (0, 8))) := rfl
theorem s_164 : shp K n 164 = some (.inr (.inl (0, 8))) := rfl
theorem s_165 : shp K n 165 = some (.inr (.inl (0, 320))) := rfl
theorem s_166 : shp K n 166 = some (.inr (.inl (0, 54))) := rfl
theorem s_167 : shp K n 167 = some (.inr (.inl (0, 54))) := rfl
theorem s_168 : shp K n 168 = some (.inr (.inl (0, 54))) := rfl
theorem s_169 : shp K n 169 = some (.inr (.inl (0, 1296))) := rfl
theorem s_170 : shp K n 170 = some (.inr (.inl (0, 110))) := rfl
theorem s_171 : shp K n 171 = some (.inr (.inl (0, 8))) := rfl
theorem s_172 : shp K n 172 = some (.inr (.inl (0, 8))) := rfl
theorem s_173 : shp K n 173 = some (.inr (.inl (0, 20))) := rfl
theorem s_174 : shp K n 174 = some (.inr (.inl (1, 2))) := rfl
theorem s_175 : shp K n 175 = some (.inr (.inl (0, 108))) := rfl
theorem s_176 : shp K n 176 = some (.inr (.inl (0, 16))) := rfl
def isH (a : Nat) : Prop := a = 4 ∨ a = 9 ∨ a = 17 ∨ (46 ≤ a ∧ a < 162 ∧ a % 4 = 2)
theorem s_H (h : isH a) : shp K n a = some (.inl (2, [some (a + 1), some (a + 2), some (a + 3), none, none, none, none, none, none])) := by
  rcases h with rfl | rfl | rfl | ⟨h1, h2, h3⟩
  · rfl
  · rfl
  · rfl
  · simp [shp, show ¬ a < 30 by omega, show ¬ a < 46 by omega, h2, h3, sHouse]
theorem s_H1 (h : isH a) : shp K n (a + 1) = some (.inr (.inl (0, 8))) := by
  rcases h with rfl | rfl | rfl | ⟨h1, h2, h3⟩
  · rfl
  · rfl
  · rfl
  · simp [shp, show ¬ a + 1 < 30 by omega, show ¬ a + 1 < 46 by omega, show a + 1 < 162 by omega, show ¬ (a + 1) % 4 = 2 by omega, show ¬ (a + 1) % 4 = 1 by omega, sI]
theorem s_H2 (h : isH a) : shp K n (a + 2) = some (.inr (.inl (0, 8))) := by
  rcases h with rfl | rfl | rfl | ⟨h1, h2, h3⟩
  · rfl
  · rfl
  · rfl
  · simp [shp, show ¬ a + 2 < 30 by omega, show ¬ a + 2 < 46 by omega, show a + 2 < 162 by omega, show ¬ (a + 2) % 4 = 2 by omega, show ¬ (a + 2) % 4 = 1 by omega, sI]
theorem s_H3 (h : isH a) : shp K n (a + 3) = some (.inr (.inr (4, 8))) := by
  rcases h with rfl | rfl | rfl | ⟨h1, h2, h3⟩
  · rfl
  · rfl
  · rfl
  · simp [shp, show ¬ a + 3 < 30 by omega, show ¬ a + 3 < 46 by omega, show a + 3 < 162 by omega, show ¬ (a + 3) % 4 = 2 by omega, show (a + 3) % 4 = 1 by omega, sQ]
theorem s_R {k : Nat} (h : k < 8) : shp K n (30 + 2 * k) = some (.inl (7, [some (31 + 2 * k), none, none])) := by
  simp [shp, show ¬ 30 + 2 * k < 30 by omega, show 30 + 2 * k < 46 by omega, show (30 + 2 * k) % 2 = 0 by omega, show 30 + 2 * k + 1 = 31 + 2 * k by omega]
theorem s_R1 {k : Nat} (h : k < 8) : shp K n (31 + 2 * k) = some (.inr (.inl (0, 40))) := by
  simp [shp, show ¬ 31 + 2 * k < 30 by omega, show 31 + 2 * k < 46 by omega, show ¬ (31 + 2 * k) % 2 = 0 by omega, sI]
/-- a walk: the real one, the dreamt one -/
def isW (a : Nat) : Prop := a = 8 ∨ a = 16
theorem s_W (h : isW a) : shp K n a = some (.inl (9, [some (a + 1), some (a + 5), some (a + 7), none, none, none, none, none, none, none, none])) := by
  rcases h with rfl | rfl <;> rfl
theorem s_W5 (h : isW a) : shp K n (a + 5) = some (.inl (5, [some (a + 6), none])) := by
  rcases h with rfl | rfl <;> rfl
theorem s_W6 (h : isW a) : shp K n (a + 6) = some (.inr (.inl (0, 17))) := by
  rcases h with rfl | rfl <;> rfl
theorem s_W7 (h : isW a) : shp K n (a + 7) = some (.inr (.inl (0, 8))) := by
  rcases h with rfl | rfl <;> rfl
theorem isW_H (h : isW a) : isH (a + 1) := by
  rcases h with rfl | rfl
  · exact Or.inr (Or.inl rfl)
  · exact Or.inr (Or.inr (Or.inl rfl))
/-- numbers in a row: a ledger, the trace -/
def isNu (a m : Nat) : Prop := (a = 13 ∧ m = 17) ∨ (a = 21 ∧ m = 17) ∨ (a = 26 ∧ m = 16)
theorem s_N {m : Nat} (h : isNu a m) : shp K n a = some (.inl (5, [some (a + 1), none])) := by
  rcases h with ⟨rfl, rfl⟩ | ⟨rfl, rfl⟩ | ⟨rfl, rfl⟩ <;> rfl
theorem s_N1 {m : Nat} (h : isNu a m) : shp K n (a + 1) = some (.inr (.inl (0, m))) := by
  rcases h with ⟨rfl, rfl⟩ | ⟨rfl, rfl⟩ | ⟨rfl, rfl⟩ <;> rfl
theorem bA_s {α β : Type} (x : α) (f : α → Option β) : bA (some x) f = f x := rfl
theorem b2_s {α β γ : Type} (x : α) (y : β) (f : α → β → Option γ) : b2 (some (x, y)) f = f x y := rfl
theorem b3_s {α β δ γ : Type} (x : α) (y : β) (z : δ) (f : α → β → δ → Option γ) : b3 (some (x, y, z)) f = f x y z := rfl
theorem b4_s {α β δ ε γ : Type} (x : α) (y : β) (z : δ) (w : ε) (f : α → β → δ → ε → Option γ) : b4 (some (x, y, z, w)) f = f x y z w := rfl
theorem bA_if {α β : Type} {c : Prop} [hd : Decidable c] (x y : Option α) (f : α → Option β) : bA (if c then x else y) f = if c then bA x f else bA y f := by
  by_cases h : c <;> simp [h]
theorem b2_if {α β γ : Type} {c : Prop} [hd : Decidable c] (x y : Option (α × β)) (f : α → β → Option γ) : b2 (if c then x else y) f = if c then b2 x f else b2 y f := by
  by_cases h : c <;> simp [h]
theorem bz0 : bz (0 : Int32) = some () := rfl
theorem bz1 : bz (1 : Int32) = some () := rfl
theorem va_s {α : Type} (f : Nat → α) (k : Nat) (v : α) : va_up f k v k = v := va_up_self f k v
end Shapes
