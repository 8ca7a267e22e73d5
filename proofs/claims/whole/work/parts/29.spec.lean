/-! WHAT A HOUSE IS: a row of 54 numbers, as the reference has it (0 doors, 1 rooms, 2 light, 3 sleep, 4 keys, 5 taken, 6.. weights, 14.. of each door: kind, from, to, n, wear) -/
abbrev Ro : Type := Nat → Nat
def uN (r : Ro) (k v : Nat) : Ro := fun j => if j = k then v else r j
theorem uN_s (r : Ro) (k v : Nat) : uN r k v k = v := by simp [uN]
theorem uN_n {r : Ro} {k j : Nat} (v : Nat) (h : j ≠ k) : uN r k v j = r j := by simp [uN, h]
/-- the kind of a door's class -/
def kd (c : Nat) : Nat := if c = 0 then 2 else if c = 1 then 3 else if c = 3 then 1 else if c = 4 then 4 else 5
def DR (I : Nat → Nat → Int32) (K : Nat → Nat) (n q k : Nat) (r : Ro) : Prop := isDr K n q ∧ kd (K q) = r (14 + 5 * k) ∧ I q 0 = nI k ∧ I q 1 = nI (r (15 + 5 * k)) ∧ I q 2 = nI (r (16 + 5 * k)) ∧ I q 3 = nI (r (17 + 5 * k))
/-- the class's house at a is the row r -/
def CH (I : Nat → Nat → Int32) (D : Nat → Nat → Option Nat) (K : Nat → Nat) (n a : Nat) (r : Ro) : Prop :=
  (I a 3 = nI (r 1) ∧ I a 4 = nI (r 0) ∧ I a 5 = nI (r 2) ∧ I a 6 = nI (r 3) ∧ I a 7 = nI (r 4) ∧ I a 8 = nI (r 5)) ∧
  (∀ k, k < r 1 → I (a + 1) k = nI (r (6 + k))) ∧
  (∀ k, k < r 0 → I (a + 2) k = nI (r (18 + 5 * k))) ∧
  (∀ k, k < r 0 → ∃ q, D (a + 3) k = some q ∧ DR I K n q k r)
/-- the reference's row f is r -/
def MH (f : Nat → Int32) (r : Ro) : Prop := ∀ j, j < 54 → f j = nI (r j)
/-- a house that may stand, of wear N at most -/
def wf (r : Ro) (N : Nat) : Prop := (2 ≤ r 1 ∧ r 1 ≤ 8) ∧ (1 ≤ r 0 ∧ r 0 ≤ 8) ∧ (1 ≤ r 2 ∧ r 2 ≤ 9) ∧ (1 ≤ r 3 ∧ r 3 ≤ 60) ∧ r 4 ≤ 63 ∧ (∀ k, k < 8 → r (6 + k) ≤ 20) ∧
  (∀ k, k < r 0 → (1 ≤ r (14 + 5 * k) ∧ r (14 + 5 * k) ≤ 5) ∧ r (15 + 5 * k) < r 1 ∧ r (16 + 5 * k) < r 1 ∧ r (15 + 5 * k) ≠ r (16 + 5 * k) ∧ r (17 + 5 * k) ≤ 9 ∧ r (18 + 5 * k) ≤ N)
/-! AN ERRAND: its state: the house, the room, noise, draught, the doors opened (in their order), the keys used -/
abbrev WS : Type := Ro × Nat × Nat × Nat × List Nat × Nat
def loudN (r : Ro) (k : Nat) : Nat := if r (14 + 5 * k) = 1 then r (17 + 5 * k) else if r (14 + 5 * k) = 2 then r (17 + 5 * k) / 2 else if r (14 + 5 * k) = 3 then r (17 + 5 * k) + 2 * r (18 + 5 * k) else 1
def gapN (r : Ro) (k : Nat) : Nat := if r (14 + 5 * k) = 2 then 2 else if r (14 + 5 * k) = 5 then 0 else 1
def keyN (r : Ro) (k : Nat) : Nat := if 4 ≤ r (14 + 5 * k) then 2 ^ (r (17 + 5 * k) % 6) else 0
def lockedN (r : Ro) (k : Nat) : Prop := 4 ≤ r (14 + 5 * k) ∧ (r 4).testBit (r (17 + 5 * k) % 6) = false
def brokenN (r : Ro) (k : Nat) : Prop := r (14 + 5 * k) = 5 ∧ ¬ r (18 + 5 * k) = 0
def opened (s : WS) (k : Nat) : WS := (uN s.1 (18 + 5 * k) (s.1 (18 + 5 * k) + 1), s.2.1, s.2.2.1 + loudN s.1 k, s.2.2.2.1 + gapN s.1 k, s.2.2.2.2.1 ++ [k], s.2.2.2.2.2 ||| keyN s.1 k)
def wOpen (s : WS) (k : Nat) : WS × Nat :=
  if 4 ≤ s.1 (14 + 5 * k) ∧ (s.1 4).testBit (s.1 (17 + 5 * k) % 6) = false then (s, 7)
  else if s.1 (14 + 5 * k) = 5 ∧ ¬ s.1 (18 + 5 * k) = 0 then (s, 8)
  else (opened s k, if s.1 3 < s.2.2.1 + loudN s.1 k then 9 else if s.1 2 < s.2.2.2.1 + gapN s.1 k then 10 else 0)
def through (s : WS) (k : Nat) : WS := (s.1, s.1 (15 + 5 * k) + s.1 (16 + 5 * k) - s.2.1, s.2.2)
def wPassK (s : WS) (k : Nat) : WS × Nat :=
  if s.2.1 = s.1 (15 + 5 * k) ∨ s.2.1 = s.1 (16 + 5 * k) then
    (if k ∈ s.2.2.2.2.1 then (through s k, 0) else if (wOpen s k).2 = 0 then (through (wOpen s k).1 k, 0) else wOpen s k)
  else (s, 6)
def wPass (s : WS) (x : Int32) : WS × Nat := if 0 ≤ x.toInt ∧ x.toInt < s.1 0 then wPassK s x.toNatClampNeg else (s, 6)
def wRun : List Int32 → WS → WS × Nat
  | [], s => (s, 0)
  | x :: xs, s => if (wPass s x).2 = 0 then wRun xs (wPass s x).1 else wPass s x
def start (r : Ro) : WS := (r, 0, 0, 0, [], 0)
/-- an errand's end: its state, the finding (0: none), the weight -/
def wTake (p : WS × Nat) : WS × Nat × Nat :=
  if p.2 = 0 then (if p.1.1 (6 + p.1.2.1) = 0 then (p.1, 11, 0) else ((uN (uN p.1.1 (6 + p.1.2.1) 0) 5 (p.1.1 5 + p.1.1 (6 + p.1.2.1)), p.1.2), 0, p.1.1 (6 + p.1.2.1)))
  else (p.1, p.2, 0)
def wGo (r : Ro) (xs : List Int32) : WS × Nat × Nat := wTake (wRun xs (start r))
/-- the bits of the doors that are open -/
def obits (l : List Nat) : Nat := l.foldl (fun b k => b ||| 2 ^ k) 0
theorem obits_app (l : List Nat) (k : Nat) : obits (l ++ [k]) = obits l ||| 2 ^ k := by simp [obits, List.foldl_append]
theorem foldl_or_tb : ∀ (l : List Nat) (b j : Nat), (l.foldl (fun b k => b ||| 2 ^ k) b).testBit j = (b.testBit j || decide (j ∈ l))
  | [], b, j => by simp
  | k :: l, b, j => by
    rw [List.foldl_cons, foldl_or_tb l (b ||| 2 ^ k) j, Nat.testBit_or, Nat.testBit_two_pow]
    by_cases h : k = j
    · subst h; simp
    · have h' : ¬ j = k := fun q => h q.symm
      simp [h, h']
theorem obits_tb (l : List Nat) (j : Nat) : (obits l).testBit j = decide (j ∈ l) := by
  rw [obits, foldl_or_tb]; simp
theorem obits_lt {l : List Nat} {m : Nat} (h : ∀ k ∈ l, k < m) : obits l < 2 ^ m := by
  apply Nat.lt_pow_two_of_testBit
  intro i hi
  rw [obits_tb, decide_eq_false_iff_not]
  intro q
  have := h i q
  omega
/-- what holds along an errand, from a house of wear N -/
def WOK (s : WS) (N : Nat) : Prop := wf s.1 (N + 1) ∧ s.2.1 < s.1 1 ∧ s.2.2.1 ≤ 6000 * s.2.2.2.2.1.length ∧ s.2.2.2.1 ≤ 2 * s.2.2.2.2.1.length ∧ (s.2.2.2.2.1.Nodup ∧ ∀ k ∈ s.2.2.2.2.1, k < s.1 0) ∧ s.2.2.2.2.2 < 64 ∧ (∀ k, k < s.1 0 → k ∉ s.2.2.2.2.1 → s.1 (18 + 5 * k) ≤ N) ∧ N ≤ 2000
theorem nodup_len : ∀ (m : Nat) (l : List Nat), l.Nodup → (∀ k ∈ l, k < m) → l.length ≤ m
  | 0, l, _, h => by
    cases l with
    | nil => simp
    | cons a l => exact absurd (h a List.mem_cons_self) (by omega)
  | m + 1, l, hn, h => by
    have e : (l.erase m).length ≤ m := nodup_len m (l.erase m) (hn.erase m) (fun k hk => by
      have h1 := h k (List.mem_of_mem_erase hk)
      have h2 : k ≠ m := fun q => by
        subst q
        exact (List.Nodup.not_mem_erase hn) hk
      omega)
    have := List.length_erase_of_mem (l := l) (a := m)
    by_cases hm : m ∈ l
    · have := this hm; omega
    · rw [List.erase_of_not_mem hm] at e; omega
theorem WOK.len {s : WS} {N : Nat} (h : WOK s N) : s.2.2.2.2.1.length ≤ 8 := Nat.le_trans (nodup_len _ _ h.2.2.2.2.1.1 h.2.2.2.2.1.2) h.1.2.1.2
theorem wf.mono {r : Ro} {N M : Nat} (h : wf r N) (hm : N ≤ M) : wf r M := by
  obtain ⟨h1, h2, h3, h4, h5, h6, h7⟩ := h
  exact ⟨h1, h2, h3, h4, h5, h6, fun k hk => by obtain ⟨a, b, c, d, e, f⟩ := h7 k hk; exact ⟨a, b, c, d, e, by omega⟩⟩
theorem WOK_start {r : Ro} {N : Nat} (h : wf r N) (hN : N ≤ 2000) : WOK (start r) N := by
  refine ⟨h.mono (by omega), ?_, ?_, ?_, ⟨?_, ?_⟩, ?_, ?_, hN⟩
  · have := h.1.1; show 0 < r 1; omega
  · simp [start]
  · simp [start]
  · simp [start]
  · simp [start]
  · simp [start]
  · intro k hk _
    exact (h.2.2.2.2.2.2 k hk).2.2.2.2.2
theorem WOK_opened {s : WS} {N k : Nat} (h : WOK s N) (hk : k < s.1 0) (hn : k ∉ s.2.2.2.2.1) : WOK (opened s k) N := by
  obtain ⟨r, rm, no, dr, op, ku⟩ := s
  obtain ⟨⟨w1, w2, w3, w4, w5, w6, w7⟩, h2, h3, h4, ⟨h5, h5'⟩, h6, h7, h8⟩ := h
  simp only at h2 h3 h4 h5 h5' h6 h7 hk hn w1 w2 w3 w4 w5 w6 w7
  have hkd := w7 k hk
  have hwr := h7 k hk hn
  have e0 : ∀ j, j < 14 → uN r (18 + 5 * k) (r (18 + 5 * k) + 1) j = r j := fun j hj => uN_n _ (by omega)
  have e1 : ∀ k2 w, w < 4 → uN r (18 + 5 * k) (r (18 + 5 * k) + 1) (14 + w + 5 * k2) = r (14 + w + 5 * k2) := fun k2 w hw => uN_n _ (by omega)
  refine ⟨⟨?_, ?_, ?_, ?_, ?_, ?_, ?_⟩, ?_, ?_, ?_, ⟨?_, ?_⟩, ?_, ?_, h8⟩
  · show 2 ≤ uN r _ _ 1 ∧ uN r _ _ 1 ≤ 8; rw [e0 1 (by omega)]; exact w1
  · show 1 ≤ uN r _ _ 0 ∧ uN r _ _ 0 ≤ 8; rw [e0 0 (by omega)]; exact w2
  · show 1 ≤ uN r _ _ 2 ∧ uN r _ _ 2 ≤ 9; rw [e0 2 (by omega)]; exact w3
  · show 1 ≤ uN r _ _ 3 ∧ uN r _ _ 3 ≤ 60; rw [e0 3 (by omega)]; exact w4
  · show uN r _ _ 4 ≤ 63; rw [e0 4 (by omega)]; exact w5
  · intro j hj; show uN r _ _ (6 + j) ≤ 20; rw [e0 (6 + j) (by omega)]; exact w6 j hj
  · intro j hj
    have hj : j < uN r _ _ 0 := hj
    rw [e0 0 (by omega)] at hj
    obtain ⟨a1, a2, a3, a4, a5, a6⟩ := w7 j hj
    show (1 ≤ uN r _ _ (14 + 5 * j) ∧ uN r _ _ (14 + 5 * j) ≤ 5) ∧ uN r _ _ (15 + 5 * j) < uN r _ _ 1 ∧ uN r _ _ (16 + 5 * j) < uN r _ _ 1 ∧ uN r _ _ (15 + 5 * j) ≠ uN r _ _ (16 + 5 * j) ∧ uN r _ _ (17 + 5 * j) ≤ 9 ∧ uN r _ _ (18 + 5 * j) ≤ N + 1
    have b0 := e1 j 0 (by omega)
    have b1 := e1 j 1 (by omega)
    have b2 := e1 j 2 (by omega)
    have b3 := e1 j 3 (by omega)
    simp only [Nat.add_zero, Nat.reduceAdd] at b0 b1 b2 b3
    rw [b0, b1, b2, b3, e0 1 (by omega)]
    refine ⟨a1, a2, a3, a4, a5, ?_⟩
    by_cases hjk : j = k
    · subst hjk; rw [uN_s]; show r (18 + 5 * j) + 1 ≤ N + 1; omega
    · rw [uN_n _ (by omega)]; exact a6
  · show rm < uN r _ _ 1; rw [e0 1 (by omega)]; exact h2
  · show no + loudN r k ≤ 6000 * (op ++ [k]).length
    have : loudN r k ≤ 6000 := by
      unfold loudN
      have := hkd.2.2.2.2.1
      split
      · omega
      · split
        · omega
        · split
          · omega
          · omega
    rw [List.length_append]; simp only [List.length_cons, List.length_nil]; omega
  · show dr + gapN r k ≤ 2 * (op ++ [k]).length
    have : gapN r k ≤ 2 := by
      unfold gapN
      split
      · omega
      · split <;> omega
    rw [List.length_append]; simp only [List.length_cons, List.length_nil]; omega
  · show (op ++ [k]).Nodup
    rw [List.nodup_append]
    refine ⟨h5, by simp, ?_⟩
    intro a ha b hb e
    rw [List.mem_singleton] at hb
    subst hb; subst e
    exact hn ha
  · intro j hj
    show j < uN r _ _ 0
    rw [e0 0 (by omega)]
    rcases List.mem_append.mp hj with q | q
    · exact h5' j q
    · rw [List.mem_singleton] at q; omega
  · show ku ||| keyN r k < 64
    have : keyN r k < 2 ^ 6 := by
      unfold keyN
      split
      · exact Nat.pow_lt_pow_right (by omega) (by omega)
      · omega
    exact Nat.or_lt_two_pow (n := 6) h6 this
  · intro j hj hjn
    have hj : j < uN r _ _ 0 := hj
    rw [e0 0 (by omega)] at hj
    have hjn : j ∉ op ++ [k] := hjn
    have hjk : j ≠ k := fun q => hjn (List.mem_append.mpr (Or.inr (by simp [q])))
    show uN r _ _ (18 + 5 * j) ≤ N
    rw [uN_n _ (by omega)]
    exact h7 j hj (fun q => hjn (List.mem_append.mpr (Or.inl q)))
theorem WOK_through {s : WS} {N k : Nat} (h : WOK s N) (hk : k < s.1 0) (hr : s.2.1 = s.1 (15 + 5 * k) ∨ s.2.1 = s.1 (16 + 5 * k)) : WOK (through s k) N := by
  obtain ⟨h1, h2, h3, h4, h5, h6, h7, h8⟩ := h
  refine ⟨h1, ?_, h3, h4, h5, h6, h7, h8⟩
  obtain ⟨a1, a2, a3, a4, a5, a6⟩ := h1.2.2.2.2.2.2 k hk
  show s.1 (15 + 5 * k) + s.1 (16 + 5 * k) - s.2.1 < s.1 1
  omega
