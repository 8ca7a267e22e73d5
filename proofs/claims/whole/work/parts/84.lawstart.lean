/-! THE START: both objects made -/
theorem nw_e {α : Type} (h : Hp) (c : Cl) (f : Nat → Hp → Option α) : nw h c f = f h.1 (hnew h c) := by
  cases h
  rfl
theorem hp0_1 : hp0.1 = 0 := by
  unfold hp0
  rfl
set_option maxRecDepth 100000 in
theorem mC_some : (f_X11_init (hnew hp0 (.inr (.inr (10, [.inr none, .inr none, .inr none, .inr none, .inr none, .inr none, .inr none, .inr none, .inr none, .inr none, .inr none, .inr none, .inl 0, .inl 0, .inl 0, .inl 0])))) 0).isSome = true := by decide +kernel
set_option maxRecDepth 100000 in
theorem mC_n : ((f_X11_init (hnew hp0 (.inr (.inr (10, [.inr none, .inr none, .inr none, .inr none, .inr none, .inr none, .inr none, .inr none, .inr none, .inr none, .inr none, .inr none, .inl 0, .inl 0, .inl 0, .inl 0])))) 0).getD hp0).1 = 162 := by decide +kernel
theorem mk_e : mkBoth = bA (f_X11_init (hnew hp0 (.inr (.inr (10, [.inr none, .inr none, .inr none, .inr none, .inr none, .inr none, .inr none, .inr none, .inr none, .inr none, .inr none, .inr none, .inl 0, .inl 0, .inl 0, .inl 0])))) 0) fun h3 => nw h3 (.inr (.inr (11, [.inl 0, .inl 0, .inr none, .inr none, .inr none, .inr none, .inr none, .inr none, .inr none, .inl 0, .inr none, .inl 0, .inl 0, .inl 0, .inl 0, .inl 0, .inl 0, .inl 0, .inl 0, .inr none, .inr none, .inl 0, .inl 0, .inl 0, .inl 0, .inl 0, .inr none, .inl 0, .inr none, .inr none, .inr none, .inl 0]))) fun q12 h11 => f_X12_init h11 q12 := by
  rw [mkBoth, nw_e, hp0_1]
theorem law_e (xs : Nat → Int32) (L : Nat) : f_L_law xs L hp0 = bA (f_X11_init (hnew hp0 (.inr (.inr (10, [.inr none, .inr none, .inr none, .inr none, .inr none, .inr none, .inr none, .inr none, .inr none, .inr none, .inr none, .inr none, .inl 0, .inl 0, .inl 0, .inl 0])))) 0) fun h3 => nw h3 (.inr (.inr (11, [.inl 0, .inl 0, .inr none, .inr none, .inr none, .inr none, .inr none, .inr none, .inr none, .inl 0, .inr none, .inl 0, .inl 0, .inl 0, .inl 0, .inl 0, .inl 0, .inl 0, .inl 0, .inr none, .inr none, .inl 0, .inl 0, .inl 0, .inl 0, .inl 0, .inr none, .inl 0, .inr none, .inr none, .inr none, .inl 0]))) fun q12 h11 => bA (f_X12_init h11 q12) fun h13 => f_L_law_L18 (fun y922 h921 => some ((1 : Int32), h921)) xs L 0 q12 513 h13 (0 : Int32) := by
  rw [f_L_law, nw_e, hp0_1]
theorem law_start (xs : Nat → Int32) (L : Nat) : f_L_law xs L hp0 = f_L_law_L18 (fun y922 h921 => some ((1 : Int32), h921)) xs L 0 162 513 hB (0 : Int32) := by
  have em := mk_e
  have n3 := mC_n
  have s3 := mC_some
  have el := law_e xs L
  generalize f_X11_init (hnew hp0 (.inr (.inr (10, [.inr none, .inr none, .inr none, .inr none, .inr none, .inr none, .inr none, .inr none, .inr none, .inr none, .inr none, .inr none, .inl 0, .inl 0, .inl 0, .inl 0])))) 0 = o at em n3 s3 el
  obtain ⟨h3, e3⟩ := Option.isSome_iff_exists.mp s3
  rw [e3, Option.getD_some] at n3
  obtain ⟨w, hw⟩ := Option.isSome_iff_exists.mp mk_some
  have hb : hB = w := by unfold hB; rw [hw, Option.getD_some]
  rw [e3, bA_s, nw_e, n3, hw] at em
  rw [el, e3, bA_s, nw_e, n3, ← em, bA_s, hb]
def I0 : Nat → Nat → Int32 := fun a => xI (hB.2 a)
def D0 : Nat → Nat → Option Nat := fun a => xD (hB.2 a)
theorem hB_e : hB = enc I0 D0 (fun _ => 0) 0 hB.2 := chk_enc hB_n hB_chk
set_option maxRecDepth 100000 in
theorem z_rows : ∀ k, k < 8 → I0 163 k = -1 ∧ I0 (30 + 2 * k) 1 = -1 := by decide +kernel
set_option maxRecDepth 100000 in
theorem z_ints : I0 2 2 = 0 ∧ I0 162 11 = 0 ∧ I0 0 14 = I0 162 18 ∧ I0 0 15 = I0 162 1 ∧ I0 13 1 = 0 ∧ I0 162 27 = 0 ∧ I0 26 1 = 0 ∧ I0 162 31 = 0 := by decide +kernel
set_option maxRecDepth 100000 in
theorem z_house : ∀ k, k < 9 → 2 < k → I0 9 k = 0 := by decide +kernel
set_option maxRecDepth 100000 in
theorem z_ref : ∀ k, k < 54 → I0 166 k = 0 := by decide +kernel
set_option maxRecDepth 100000 in
theorem z_acts : I0 0 12 = 0 ∧ I0 0 13 = 0 ∧ I0 162 9 = 0 := by decide +kernel
set_option maxRecDepth 100000 in
theorem z_imgs : ∀ k, k < 2 → I0 174 k = 0 ∧ I0 (142 + 4 * k) 3 = 0 := by decide +kernel
set_option maxRecDepth 100000 in
theorem z_refs : (∀ k, k < 8 → D0 1 k = some (30 + 2 * k)) ∧ (∀ k, k < 24 → D0 24 k = some (46 + 4 * k)) ∧ (∀ k, k < 2 → D0 25 k = some (142 + 4 * k)) ∧ (∀ k, k < 3 → D0 28 k = some (150 + 4 * k)) := by decide +kernel
set_option maxRecDepth 100000 in
theorem z_doors : ∀ a, a < 162 → (a = 4 ∨ a = 9 ∨ a = 17 ∨ (46 ≤ a ∧ a < 162 ∧ a % 4 = 2)) → ∀ k, k < 8 → D0 (a + 3) k = none := by decide +kernel
theorem inv0 : Inv I0 D0 (fun _ => 0) 0 0 := by
  obtain ⟨i1, i2, i3, i4, i5, i6, i7, i8⟩ := z_ints
  obtain ⟨a1, a2, a3⟩ := z_acts
  refine ⟨fun k hk => Or.inl (z_rows k hk), ⟨⟨0, Nat.zero_le _, i1, i2, fun j hj => absurd hj (Nat.not_lt_zero j)⟩, i3, i4, ⟨0, Nat.zero_le _, i5, i6, fun j hj => absurd hj (Nat.not_lt_zero j)⟩, ⟨0, Nat.zero_le _, i7, i8, fun j hj => absurd hj (Nat.not_lt_zero j)⟩⟩, ⟨fun _ => 0, ⟨⟨z_house 3 (by decide) (by decide), z_house 4 (by decide) (by decide), z_house 5 (by decide) (by decide), z_house 6 (by decide) (by decide), z_house 7 (by decide) (by decide), z_house 8 (by decide) (by decide)⟩, fun k hk => absurd hk (Nat.not_lt_zero k), fun k hk => absurd hk (Nat.not_lt_zero k), fun k hk => absurd hk (Nat.not_lt_zero k)⟩, fun j hj => z_ref j hj, Or.inr (fun _ => rfl)⟩, ⟨0, 0, by decide, by decide, a1, a2, a3, fun i hi => absurd hi (Nat.not_lt_zero i)⟩, fun k hk => Or.inl (z_imgs k hk), z_refs, fun a ha k q hk hq => ?_⟩
  have hl : a < 162 := (isH_lt ha).1
  rw [z_doors a hl ha k hk] at hq
  cases hq
theorem law_pure : LawPure := by
  intro xs L hL
  obtain ⟨h', e⟩ := law_L (Z := hB.2) (xs := xs) hL 512 0 I0 D0 (fun _ => 0) 0 (by decide) inv0
  refine ⟨h', ?_⟩
  rw [law_start, hB_e]
  exact e
