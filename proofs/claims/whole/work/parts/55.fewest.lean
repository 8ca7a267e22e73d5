/-! ERRANDS WITH OTHER KEYS, OTHER SLEEP: what an errand that comes well needs -/
def nd_chg (S V : Nat) (s : WS) : WS := (uN (uN s.1 4 S) 3 V, s.2)
def nd_fit (S V : Nat) (s : WS) : Prop := (∀ j, s.2.2.2.2.2.testBit j = true → S.testBit j = true) ∧ s.2.2.1 ≤ V
theorem nd_at (r : Ro) (S V : Nat) {m : Nat} (a : m ≠ 3) (b : m ≠ 4) : uN (uN r 4 S) 3 V m = r m := by rw [uN_n _ a, uN_n _ b]
theorem nd_4 (r : Ro) (S V : Nat) : uN (uN r 4 S) 3 V 4 = S := by rw [uN_n _ (by decide), uN_s]
theorem nd_3 (r : Ro) (S V : Nat) : uN (uN r 4 S) 3 V 3 = V := uN_s _ _ _
theorem nd_com (r : Ro) (S V k v : Nat) : uN (uN (uN r 4 S) 3 V) (18 + 5 * k) v = uN (uN (uN r (18 + 5 * k) v) 4 S) 3 V := by
  funext j
  by_cases j3 : j = 3
  · subst j3; rw [uN_n _ (show 3 ≠ 18 + 5 * k by omega), uN_s, uN_s]
  · by_cases j4 : j = 4
    · subst j4; rw [uN_n _ (show 4 ≠ 18 + 5 * k by omega), nd_4, nd_4]
    · by_cases jk : j = 18 + 5 * k
      · subst jk; rw [uN_s, nd_at _ _ _ j3 j4, uN_s]
      · rw [uN_n _ jk, nd_at _ _ _ j3 j4, nd_at _ _ _ j3 j4, uN_n _ jk]
theorem nd_loud (r : Ro) (S V k : Nat) : loudN (uN (uN r 4 S) 3 V) k = loudN r k := by
  unfold loudN
  rw [nd_at _ _ _ (show 14 + 5 * k ≠ 3 by omega) (by omega), nd_at _ _ _ (show 17 + 5 * k ≠ 3 by omega) (by omega), nd_at _ _ _ (show 18 + 5 * k ≠ 3 by omega) (by omega)]
theorem nd_gap (r : Ro) (S V k : Nat) : gapN (uN (uN r 4 S) 3 V) k = gapN r k := by
  unfold gapN
  rw [nd_at _ _ _ (show 14 + 5 * k ≠ 3 by omega) (by omega)]
theorem nd_key (r : Ro) (S V k : Nat) : keyN (uN (uN r 4 S) 3 V) k = keyN r k := by
  unfold keyN
  rw [nd_at _ _ _ (show 14 + 5 * k ≠ 3 by omega) (by omega), nd_at _ _ _ (show 17 + 5 * k ≠ 3 by omega) (by omega)]
theorem nd_opened (S V k : Nat) (s : WS) : opened (nd_chg S V s) k = nd_chg S V (opened s k) := by
  obtain ⟨r, rm, no, dr, op, ku⟩ := s
  show (uN (uN (uN r 4 S) 3 V) (18 + 5 * k) (uN (uN r 4 S) 3 V (18 + 5 * k) + 1), rm, no + loudN (uN (uN r 4 S) 3 V) k, dr + gapN (uN (uN r 4 S) 3 V) k, op ++ [k], ku ||| keyN (uN (uN r 4 S) 3 V) k) = (uN (uN (uN r (18 + 5 * k) (r (18 + 5 * k) + 1)) 4 S) 3 V, rm, no + loudN r k, dr + gapN r k, op ++ [k], ku ||| keyN r k)
  rw [nd_loud, nd_gap, nd_key, nd_at _ _ _ (show 18 + 5 * k ≠ 3 by omega) (by omega), nd_com]
theorem nd_through (S V k : Nat) (s : WS) : through (nd_chg S V s) k = nd_chg S V (through s k) := by
  show (uN (uN s.1 4 S) 3 V, uN (uN s.1 4 S) 3 V (15 + 5 * k) + uN (uN s.1 4 S) 3 V (16 + 5 * k) - s.2.1, s.2.2) = (uN (uN s.1 4 S) 3 V, s.1 (15 + 5 * k) + s.1 (16 + 5 * k) - s.2.1, s.2.2)
  rw [nd_at _ _ _ (show 15 + 5 * k ≠ 3 by omega) (by omega), nd_at _ _ _ (show 16 + 5 * k ≠ 3 by omega) (by omega)]
theorem nd_open (S V k : Nat) (s : WS) (p : WS × Nat) (hp : wOpen s k = p) (h0 : p.2 = 0) (hf : nd_fit S V p.1) : wOpen (nd_chg S V s) k = (nd_chg S V p.1, 0) := by
  rw [wOpen] at hp
  by_cases a : 4 ≤ s.1 (14 + 5 * k) ∧ (s.1 4).testBit (s.1 (17 + 5 * k) % 6) = false
  · rw [if_pos a] at hp; subst hp; cases h0
  · rw [if_neg a] at hp
    by_cases b : s.1 (14 + 5 * k) = 5 ∧ ¬ s.1 (18 + 5 * k) = 0
    · rw [if_pos b] at hp; subst hp; cases h0
    · rw [if_neg b] at hp
      subst hp
      have h0 : (if s.1 3 < s.2.2.1 + loudN s.1 k then 9 else if s.1 2 < s.2.2.2.1 + gapN s.1 k then 10 else 0) = 0 := h0
      have hf1 : ∀ j, (s.2.2.2.2.2 ||| keyN s.1 k).testBit j = true → S.testBit j = true := hf.1
      have hf2 : s.2.2.1 + loudN s.1 k ≤ V := hf.2
      have c3 : ¬ s.1 3 < s.2.2.1 + loudN s.1 k := fun q => by rw [if_pos q] at h0; cases h0
      have c2 : ¬ s.1 2 < s.2.2.2.1 + gapN s.1 k := fun q => by rw [if_neg c3, if_pos q] at h0; cases h0
      have e1 : (nd_chg S V s).1 = uN (uN s.1 4 S) 3 V := rfl
      have e2 : (nd_chg S V s).2 = s.2 := rfl
      have a' : ¬ (4 ≤ s.1 (14 + 5 * k) ∧ S.testBit (s.1 (17 + 5 * k) % 6) = false) := by
        intro q
        have q2 : (s.2.2.2.2.2 ||| keyN s.1 k).testBit (s.1 (17 + 5 * k) % 6) = true := by
          rw [Nat.testBit_or, keyN, if_pos q.1, Nat.testBit_two_pow_self, Bool.or_true]
        rw [hf1 _ q2] at q
        exact absurd q.2 (by decide)
      rw [wOpen, e1, e2, nd_4, nd_3, nd_at _ _ _ (show 14 + 5 * k ≠ 3 by omega) (by omega), nd_at _ _ _ (show 17 + 5 * k ≠ 3 by omega) (by omega), nd_at _ _ _ (show 18 + 5 * k ≠ 3 by omega) (by omega), nd_at _ _ _ (show 2 ≠ 3 by omega) (by omega), nd_loud, nd_gap, if_neg a', if_neg b, if_neg (show ¬ V < s.2.2.1 + loudN s.1 k by omega), if_neg c2, nd_opened]
theorem nd_passK (S V k : Nat) (s : WS) (p : WS × Nat) (hp : wPassK s k = p) (h0 : p.2 = 0) (hf : nd_fit S V p.1) : wPassK (nd_chg S V s) k = (nd_chg S V p.1, 0) := by
  rw [wPassK] at hp
  have e1 : (nd_chg S V s).1 = uN (uN s.1 4 S) 3 V := rfl
  have e2 : (nd_chg S V s).2 = s.2 := rfl
  rw [wPassK, e1, e2, nd_at _ _ _ (show 15 + 5 * k ≠ 3 by omega) (by omega), nd_at _ _ _ (show 16 + 5 * k ≠ 3 by omega) (by omega)]
  by_cases a : s.2.1 = s.1 (15 + 5 * k) ∨ s.2.1 = s.1 (16 + 5 * k)
  · rw [if_pos a] at hp ⊢
    by_cases b : k ∈ s.2.2.2.2.1
    · rw [if_pos b] at hp ⊢
      subst hp
      rw [nd_through]
    · rw [if_neg b] at hp ⊢
      by_cases c : (wOpen s k).2 = 0
      · rw [if_pos c] at hp
        subst hp
        have q := nd_open S V k s _ rfl c hf
        rw [q, if_pos rfl, nd_through]
      · rw [if_neg c] at hp
        subst hp
        exact absurd h0 c
  · rw [if_neg a] at hp; subst hp; cases h0
theorem nd_pass (S V : Nat) (x : Int32) (s : WS) (p : WS × Nat) (hp : wPass s x = p) (h0 : p.2 = 0) (hf : nd_fit S V p.1) : wPass (nd_chg S V s) x = (nd_chg S V p.1, 0) := by
  rw [wPass] at hp
  have e1 : (nd_chg S V s).1 = uN (uN s.1 4 S) 3 V := rfl
  rw [wPass, e1, nd_at _ _ _ (show 0 ≠ 3 by omega) (by omega)]
  by_cases a : 0 ≤ x.toInt ∧ x.toInt < s.1 0
  · rw [if_pos a] at hp ⊢
    exact nd_passK S V _ s p hp h0 hf
  · rw [if_neg a] at hp; subst hp; cases h0
/-- what only grows -/
def nd_le (s t : WS) : Prop := (∀ j, s.2.2.2.2.2.testBit j = true → t.2.2.2.2.2.testBit j = true) ∧ s.2.2.1 ≤ t.2.2.1
theorem nd_le.rf (s : WS) : nd_le s s := ⟨fun _ h => h, Nat.le_refl _⟩
theorem nd_le.tr {s t u : WS} (h : nd_le s t) (g : nd_le t u) : nd_le s u := ⟨fun j q => g.1 j (h.1 j q), Nat.le_trans h.2 g.2⟩
theorem nd_le_open (s : WS) (k : Nat) : nd_le s (wOpen s k).1 := by
  unfold wOpen
  split
  · exact nd_le.rf s
  · split
    · exact nd_le.rf s
    · refine ⟨fun j h => ?_, Nat.le_add_right _ _⟩
      show (s.2.2.2.2.2 ||| keyN s.1 k).testBit j = true
      rw [Nat.testBit_or, h, Bool.true_or]
theorem nd_le_pass (s : WS) (x : Int32) : nd_le s (wPass s x).1 := by
  unfold wPass
  split
  · unfold wPassK
    split
    · split
      · exact nd_le.rf s
      · split
        · exact nd_le_open s _
        · exact nd_le_open s _
    · exact nd_le.rf s
  · exact nd_le.rf s
theorem nd_le_run : ∀ (xs : List Int32) (s : WS), nd_le s (wRun xs s).1
  | [], s => nd_le.rf s
  | x :: xs, s => by
    rw [wRun]
    split
    · exact (nd_le_pass s x).tr (nd_le_run xs _)
    · exact nd_le_pass s x
theorem nd_fit.le {S V : Nat} {s t : WS} (h : nd_fit S V t) (g : nd_le s t) : nd_fit S V s := ⟨fun j q => h.1 j (g.1 j q), Nat.le_trans g.2 h.2⟩
theorem nd_run (S V : Nat) : ∀ (xs : List Int32) (s : WS) (p : WS × Nat), wRun xs s = p → p.2 = 0 → nd_fit S V p.1 → wRun xs (nd_chg S V s) = (nd_chg S V p.1, 0)
  | [], s, p, hp, h0, hf => by subst hp; rfl
  | x :: xs, s, p, hp, h0, hf => by
    rw [wRun] at hp ⊢
    by_cases a : (wPass s x).2 = 0
    · rw [if_pos a] at hp
      have f1 : nd_fit S V (wPass s x).1 := hf.le (by rw [← hp]; exact nd_le_run xs _)
      rw [nd_pass S V x s _ rfl a f1, if_pos rfl]
      exact nd_run S V xs _ p hp h0 hf
    · rw [if_neg a] at hp
      subst hp
      exact absurd h0 a
/-- along an errand that comes well, what was used was there -/
def nd_gd (S V : Nat) (s : WS) : Prop := s.1 4 = S ∧ s.1 3 = V ∧ nd_fit S V s
theorem nd_gd_open {S V : Nat} {s : WS} (k : Nat) (h : nd_gd S V s) (h0 : (wOpen s k).2 = 0) : nd_gd S V (wOpen s k).1 := by
  obtain ⟨h4, h3, hf⟩ := h
  rw [wOpen] at h0 ⊢
  by_cases a : 4 ≤ s.1 (14 + 5 * k) ∧ (s.1 4).testBit (s.1 (17 + 5 * k) % 6) = false
  · rw [if_pos a] at h0; cases h0
  · rw [if_neg a] at h0 ⊢
    by_cases b : s.1 (14 + 5 * k) = 5 ∧ ¬ s.1 (18 + 5 * k) = 0
    · rw [if_pos b] at h0; cases h0
    · rw [if_neg b] at h0 ⊢
      have h0 : (if s.1 3 < s.2.2.1 + loudN s.1 k then 9 else if s.1 2 < s.2.2.2.1 + gapN s.1 k then 10 else 0) = 0 := h0
      have c3 : ¬ s.1 3 < s.2.2.1 + loudN s.1 k := fun q => by rw [if_pos q] at h0; cases h0
      refine ⟨?_, ?_, fun j hj => ?_, ?_⟩
      · show uN s.1 (18 + 5 * k) _ 4 = S
        rw [uN_n _ (show 4 ≠ 18 + 5 * k by omega)]; exact h4
      · show uN s.1 (18 + 5 * k) _ 3 = V
        rw [uN_n _ (show 3 ≠ 18 + 5 * k by omega)]; exact h3
      · have hj : (s.2.2.2.2.2 ||| keyN s.1 k).testBit j = true := hj
        rw [Nat.testBit_or, Bool.or_eq_true] at hj
        rcases hj with hj | hj
        · exact hf.1 j hj
        · unfold keyN at hj
          by_cases q : 4 ≤ s.1 (14 + 5 * k)
          · rw [if_pos q, Nat.testBit_two_pow] at hj
            have e : s.1 (17 + 5 * k) % 6 = j := of_decide_eq_true hj
            rw [← h4, ← e]
            cases z : (s.1 4).testBit (s.1 (17 + 5 * k) % 6) with
            | false => exact absurd ⟨q, z⟩ a
            | true => rfl
          · rw [if_neg q, Nat.zero_testBit] at hj; cases hj
      · show s.2.2.1 + loudN s.1 k ≤ V
        omega
theorem nd_gd_pass {S V : Nat} {s : WS} (x : Int32) (h : nd_gd S V s) (h0 : (wPass s x).2 = 0) : nd_gd S V (wPass s x).1 := by
  rw [wPass] at h0 ⊢
  by_cases a : 0 ≤ x.toInt ∧ x.toInt < s.1 0
  · rw [if_pos a] at h0 ⊢
    rw [wPassK] at h0 ⊢
    by_cases b : s.2.1 = s.1 (15 + 5 * x.toNatClampNeg) ∨ s.2.1 = s.1 (16 + 5 * x.toNatClampNeg)
    · rw [if_pos b] at h0 ⊢
      by_cases c : x.toNatClampNeg ∈ s.2.2.2.2.1
      · rw [if_pos c]; exact h
      · rw [if_neg c] at h0 ⊢
        by_cases d : (wOpen s x.toNatClampNeg).2 = 0
        · rw [if_pos d]; exact nd_gd_open _ h d
        · rw [if_neg d] at h0; exact absurd h0 d
    · rw [if_neg b]; exact h
  · rw [if_neg a]; exact h
theorem nd_gd_run {S V : Nat} : ∀ (xs : List Int32) (s : WS), nd_gd S V s → (wRun xs s).2 = 0 → nd_gd S V (wRun xs s).1
  | [], s, h, _ => h
  | x :: xs, s, h, h0 => by
    rw [wRun] at h0 ⊢
    by_cases a : (wPass s x).2 = 0
    · rw [if_pos a] at h0 ⊢
      exact nd_gd_run xs _ (nd_gd_pass x h a) h0
    · rw [if_neg a] at h0; exact absurd h0 a
theorem nd_twice (r : Ro) (S V S0 V0 : Nat) : uN (uN (uN (uN r 4 S) 3 V) 4 S0) 3 V0 = uN (uN r 4 S0) 3 V0 := by
  funext j
  by_cases j3 : j = 3
  · subst j3; rw [uN_s, uN_s]
  · by_cases j4 : j = 4
    · subst j4; rw [nd_4, nd_4]
    · rw [nd_at _ _ _ j3 j4, nd_at _ _ _ j3 j4, nd_at _ _ _ j3 j4]
theorem nd_start (r : Ro) (S V S0 V0 : Nat) : nd_chg S0 V0 (start (uN (uN r 4 S) 3 V)) = start (uN (uN r 4 S0) 3 V0) := by
  show (uN (uN (uN (uN r 4 S) 3 V) 4 S0) 3 V0, 0, 0, 0, [], 0) = (uN (uN r 4 S0) 3 V0, 0, 0, 0, [], 0)
  rw [nd_twice]
theorem wTake_0 (p : WS × Nat) : (wTake p).2.1 = 0 → p.2 = 0 := by
  unfold wTake
  split
  · next h => intro _; exact h
  · intro h; exact h
theorem nd_take (S V : Nat) (s : WS) : (wTake (nd_chg S V s, 0)).2 = (wTake (s, 0)).2 := by
  unfold wTake
  rw [if_pos rfl, if_pos rfl]
  show ((if uN (uN s.1 4 S) 3 V (6 + s.2.1) = 0 then _ else _ : WS × Nat × Nat)).2 = _
  have e : uN (uN s.1 4 S) 3 V (6 + s.2.1) = s.1 (6 + s.2.1) := nd_at _ _ _ (by omega) (by omega)
  by_cases q : s.1 (6 + s.2.1) = 0
  · rw [if_pos (e.trans q), if_pos q]
  · rw [if_neg (fun z => q (e.symm.trans z)), if_neg q]
    show (0, uN (uN s.1 4 S) 3 V (6 + s.2.1)) = (0, s.1 (6 + s.2.1))
    rw [e]
theorem nd_go {r : Ro} {S V S0 V0 : Nat} {xs : List Int32} (h : (wGo (uN (uN r 4 S) 3 V) xs).2.1 = 0) (hf : nd_fit S0 V0 (wGo (uN (uN r 4 S) 3 V) xs).1) : (wGo (uN (uN r 4 S0) 3 V0) xs).2 = (wGo (uN (uN r 4 S) 3 V) xs).2 ∧ (wGo (uN (uN r 4 S0) 3 V0) xs).1.2 = (wGo (uN (uN r 4 S) 3 V) xs).1.2 := by
  unfold wGo at h hf ⊢
  have h0 := wTake_0 _ h
  have hf' : nd_fit S0 V0 (wRun xs (start (uN (uN r 4 S) 3 V))).1 := by
    unfold nd_fit at hf ⊢
    rw [wTake_op] at hf
    exact hf
  have q := nd_run S0 V0 xs (start (uN (uN r 4 S) 3 V)) _ rfl h0 hf'
  rw [nd_start] at q
  rw [q]
  have e : wRun xs (start (uN (uN r 4 S) 3 V)) = ((wRun xs (start (uN (uN r 4 S) 3 V))).1, 0) := Prod.ext rfl h0
  refine ⟨?_, ?_⟩
  · rw [nd_take, ← e]
  · rw [wTake_op, wTake_op]; rfl
theorem nd_has {r : Ro} {S V : Nat} {xs : List Int32} (h : (wGo (uN (uN r 4 S) 3 V) xs).2.1 = 0) : nd_fit S V (wGo (uN (uN r 4 S) 3 V) xs).1 := by
  unfold wGo at h ⊢
  have h0 := wTake_0 _ h
  have st : nd_fit S V (start (uN (uN r 4 S) 3 V)) := ⟨fun j hj => (by
    have hj : (0 : Nat).testBit j = true := hj
    rw [Nat.zero_testBit] at hj
    cases hj), Nat.zero_le _⟩
  have q := (nd_gd_run xs (start (uN (uN r 4 S) 3 V)) ⟨nd_4 r S V, nd_3 r S V, st⟩ h0).2.2
  unfold nd_fit at q ⊢
  rw [wTake_op]
  exact q
/-- an errand comes well with S, V just if it does with more, and S, V hold what it used there -/
theorem nd_iff {r : Ro} {S V S0 V0 : Nat} (hS : ∀ j, S.testBit j = true → S0.testBit j = true) (hV : V ≤ V0) (xs : List Int32) : (wGo (uN (uN r 4 S) 3 V) xs).2.1 = 0 ↔ (wGo (uN (uN r 4 S0) 3 V0) xs).2.1 = 0 ∧ nd_fit S V (wGo (uN (uN r 4 S0) 3 V0) xs).1 := by
  constructor
  · intro h
    have f := nd_has h
    have g := nd_go (S0 := S0) (V0 := V0) h ⟨fun j q => hS j (f.1 j q), Nat.le_trans f.2 hV⟩
    refine ⟨by rw [g.1]; exact h, ?_⟩
    unfold nd_fit at f ⊢
    rw [g.2]
    exact f
  · intro h
    rw [(nd_go (S0 := S) (V0 := V) h.1 h.2).1]
    exact h.1
theorem nd_sub (U S : Nat) : (∀ j, U.testBit j = true → S.testBit j = true) ↔ U &&& S = U := by
  constructor
  · intro h
    apply Nat.eq_of_testBit_eq
    intro i
    rw [Nat.testBit_and]
    cases e : U.testBit i with
    | false => rfl
    | true => rw [h i e]; rfl
  · intro h j hj
    have q : (U &&& S).testBit j = true := by rw [h]; exact hj
    rw [Nat.testBit_and, Bool.and_eq_true] at q
    exact q.2
theorem nd_own4 (r : Ro) (S : Nat) : uN (uN r 4 S) 3 (r 3) = uN r 4 S := by
  funext j
  by_cases j3 : j = 3
  · subst j3; rw [uN_s, uN_n _ (by decide)]
  · rw [uN_n _ j3]
theorem nd_own3 (r : Ro) (V : Nat) : uN (uN r 4 (r 4)) 3 V = uN r 3 V := by
  funext j
  by_cases j3 : j = 3
  · subst j3; rw [uN_s, uN_s]
  · rw [uN_n _ j3, uN_n _ j3]
    by_cases j4 : j = 4
    · subst j4; rw [uN_s]
    · rw [uN_n _ j4]
def pcN (v : Nat) : Nat := v % 2 + v / 2 % 2 + v / 4 % 2 + v / 8 % 2 + v / 16 % 2 + v / 32 % 2
theorem pc_sub : ∀ U, U < 64 → ∀ j, j < 64 → U &&& j = U → U ≤ j ∧ pcN U ≤ pcN j := by decide +kernel
theorem and_63 : ∀ S, S < 64 → S &&& 63 = S := by decide +kernel
theorem pc_lt : ∀ U, U < 64 → pcN U ≤ 6 := by decide +kernel
theorem nd_sub63 {S : Nat} (h : S < 64) : ∀ j, S.testBit j = true → (63 : Nat).testBit j = true := (nd_sub S 63).mpr (and_63 S h)
/-- with the key set S it comes well just if it does with all keys and S holds the keys used -/
theorem nd_keys {r : Ro} {S : Nat} (hS : S < 64) (xs : List Int32) : (wGo (uN r 4 S) xs).2.1 = 0 ↔ (wGo (uN r 4 63) xs).2.1 = 0 ∧ (wGo (uN r 4 63) xs).1.2.2.2.2.2 &&& S = (wGo (uN r 4 63) xs).1.2.2.2.2.2 := by
  have q := nd_iff (r := r) (S := S) (V := r 3) (S0 := 63) (V0 := r 3) (nd_sub63 hS) (Nat.le_refl _) xs
  rw [nd_own4, nd_own4] at q
  rw [q]
  unfold nd_fit
  rw [nd_sub]
  constructor
  · intro h; exact ⟨h.1, h.2.1⟩
  · intro h
    have f := nd_has (r := r) (S := 63) (V := r 3) (xs := xs) (by rw [nd_own4]; exact h.1)
    rw [nd_own4] at f
    exact ⟨h.1, h.2, f.2⟩
/-- with the sleep V it comes well just if it does with the deepest and its noise is no more than V -/
theorem nd_sleep {r : Ro} {V : Nat} (hV : V ≤ 60) (xs : List Int32) : (wGo (uN r 3 V) xs).2.1 = 0 ↔ (wGo (uN r 3 60) xs).2.1 = 0 ∧ (wGo (uN r 3 60) xs).1.2.2.1 ≤ V := by
  have q := nd_iff (r := r) (S := r 4) (V := V) (S0 := r 4) (V0 := 60) (fun _ h => h) hV xs
  rw [nd_own3, nd_own3] at q
  rw [q]
  unfold nd_fit
  constructor
  · intro h; exact ⟨h.1, h.2.2⟩
  · intro h
    have f := nd_has (r := r) (S := r 4) (V := 60) (xs := xs) (by rw [nd_own3]; exact h.1)
    rw [nd_own3] at f
    exact ⟨h.1, f.1, h.2⟩
theorem nd_noise {r : Ro} {xs : List Int32} (h : (wGo (uN r 3 60) xs).2.1 = 0) : (wGo (uN r 3 60) xs).1.2.2.1 ≤ 60 := ((nd_sleep (Nat.le_refl 60) xs).mp h).2
theorem bc_v : ∀ v, v < 64 → (f_J6_bitCount_0f7a4 hp0 (nI v)).map Prod.fst = some (nI (pcN v)) := by decide +kernel
theorem bc_h (h : Hp) (x : Int32) : f_J6_bitCount_0f7a4 h x = some (((f_J6_bitCount_0f7a4 hp0 x).map Prod.fst).getD 0, h) := rfl
theorem c_bitCount (h : Hp) {v : Nat} (hv : v < 64) : f_J6_bitCount_0f7a4 h (nI v) = some (nI (pcN v), h) := by
  rw [bc_h, bc_v v hv]; rfl
def bt_f (x0 : Int32) : Nat → Int32 → Int32 → Option Int32
  | 0, _, _ => none
  | f + 1, x1, x2 => if (8 : Int32) ≤ x2 then some x1 else bt_f x0 f (x1 + ((x0 >>> (x2 &&& 31)) &&& (1 : Int32))) (x2 + (1 : Int32))
theorem bt_v : ∀ v, v < 64 → bt_f (nI v) 20 0 0 = some (nI (pcN v)) := by decide +kernel
theorem bt_h (x0 : Int32) (h : Hp) : ∀ (f e : Nat) (x1 x2 u : Int32), bt_f x0 f x1 x2 = some u → f_X12_bits_L4 (fun y3 y4 h2 => some (y3, h2)) x0 (f + e) h x1 x2 = some (u, h) := by
  intro f
  induction f with
  | zero => intro e x1 x2 u q; cases q
  | succ f ih =>
    intro e x1 x2 u q
    rw [show f + 1 + e = (f + e) + 1 by omega, f_X12_bits_L4]
    rw [bt_f] at q
    by_cases a : (8 : Int32) ≤ x2
    · rw [if_pos a] at q ⊢; cases q; rfl
    · rw [if_neg a] at q ⊢
      exact ih e _ _ u q
theorem m_bits (h : Hp) {v : Nat} (hv : v < 64) : f_X12_bits h (nI v) = some (nI (pcN v), h) := by
  unfold f_X12_bits
  exact bt_h (nI v) h 20 1980 0 0 _ (bt_v v hv)
