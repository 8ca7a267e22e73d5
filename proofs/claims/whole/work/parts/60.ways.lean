/-! WAYS: the first of them, by trying doors one behind another, and by numbers -/
def srch {α : Type} (P : Nat → Option α) : Nat → Nat → Option α
  | 0, _ => none
  | c + 1, j => match P j with
    | some x => some x
    | none => srch P c (j + 1)
theorem srch_cong {α : Type} {P Q : Nat → Option α} : ∀ (c j : Nat), (∀ k, j ≤ k → k < j + c → P k = Q k) → srch P c j = srch Q c j
  | 0, _, _ => rfl
  | c + 1, j, h => by
    rw [srch, srch, h j (Nat.le_refl _) (by omega), srch_cong c (j + 1) (fun k a b => h k (by omega) (by omega))]
theorem srch_none {α : Type} {P : Nat → Option α} : ∀ (c j : Nat), (∀ k, j ≤ k → k < j + c → P k = none) → srch P c j = none
  | 0, _, _ => rfl
  | c + 1, j, h => by
    rw [srch, h j (Nat.le_refl _) (by omega)]
    exact srch_none c (j + 1) (fun k a b => h k (by omega) (by omega))
theorem srch_app {α : Type} (P : Nat → Option α) : ∀ (a b j : Nat), srch P (a + b) j = (match srch P a j with | some x => some x | none => srch P b (j + a))
  | 0, b, j => by rw [Nat.zero_add]; rfl
  | a + 1, b, j => by
    rw [show a + 1 + b = (a + b) + 1 by omega, srch, srch]
    cases P j with
    | some x => rfl
    | none =>
      show srch P (a + b) (j + 1) = _
      rw [srch_app P a b (j + 1), show j + 1 + a = j + (a + 1) by omega]
theorem srch_blocks {α : Type} (P : Nat → Option α) (M s : Nat) : ∀ (c k : Nat), srch (fun k => srch P M (s + k * M)) c k = srch P (c * M) (s + k * M)
  | 0, k => by rw [Nat.zero_mul]; rfl
  | c + 1, k => by
    rw [srch, Nat.succ_mul, Nat.add_comm (c * M) M, srch_app]
    have e : s + (k + 1) * M = s + k * M + M := by rw [Nat.succ_mul]; omega
    rw [srch_blocks P M s c (k + 1), e]
/-- the digits of a number, as many as n, the highest first -/
def dg (d : Nat) : Nat → Nat → List Nat
  | 0, _ => []
  | n + 1, v => dg d n (v / d) ++ [v % d]
theorem dg_len (d : Nat) : ∀ (n v : Nat), (dg d n v).length = n
  | 0, _ => rfl
  | n + 1, v => by rw [dg, List.length_append, dg_len d n]; rfl
theorem dg_lt {d : Nat} (h : 0 < d) : ∀ (n v : Nat), ∀ k ∈ dg d n v, k < d
  | 0, _, k, hk => by cases hk
  | n + 1, v, k, hk => by
    rw [dg, List.mem_append, List.mem_singleton] at hk
    rcases hk with hk | hk
    · exact dg_lt h n _ k hk
    · rw [hk]; exact Nat.mod_lt _ h
def okW (r : Ro) (p : List Nat) : Prop := (wGo r (p.map nI)).2.1 = 0
def leafW (r : Ro) (goal : Nat) (p : List Nat) : Option (List Nat) := if (wGo r (p.map nI)).2.1 = 0 ∧ (wGo r (p.map nI)).1.2.1 = goal then some p else none
def rfW (r : Ro) (goal : Nat) : Nat → List Nat → Option (List Nat)
  | 0, p => leafW r goal p
  | m + 1, p => srch (fun k => rfW r goal m (p ++ [k])) (r 0) 0
def beyW (r : Ro) (k rm : Nat) : Nat := if rm = r (15 + 5 * k) then r (16 + 5 * k) else r (15 + 5 * k)
def fwW (r : Ro) (goal : Nat) : Nat → Nat → List Nat → Option (List Nat)
  | 0, rm, p => if rm = goal ∧ (wGo r (p.map nI)).2.1 = 0 then some p else none
  | m + 1, rm, p => srch (fun k => if rm = r (15 + 5 * k) ∨ rm = r (16 + 5 * k) then fwW r goal m (beyW r k rm) (p ++ [k]) else none) (r 0) 0
/-- where doors lead, if they are joined -/
def jnW (r : Ro) : Nat → List Nat → Option Nat
  | rm, [] => some rm
  | rm, k :: ks => if rm = r (15 + 5 * k) ∨ rm = r (16 + 5 * k) then jnW r (beyW r k rm) ks else none
theorem jnW_app (r : Ro) (k : Nat) : ∀ (p : List Nat) (rm : Nat), jnW r rm (p ++ [k]) = (match jnW r rm p with | some x => if x = r (15 + 5 * k) ∨ x = r (16 + 5 * k) then some (beyW r k x) else none | none => none)
  | [], rm => rfl
  | j :: p, rm => by
    show jnW r rm (j :: (p ++ [k])) = _
    rw [jnW, jnW]
    by_cases a : rm = r (15 + 5 * j) ∨ rm = r (16 + 5 * j)
    · rw [if_pos a, if_pos a]; exact jnW_app r k p _
    · rw [if_neg a, if_neg a]
/-- fields of doors that no errand changes -/
def sameD (r q : Ro) : Prop := q 0 = r 0 ∧ ∀ k, q (15 + 5 * k) = r (15 + 5 * k) ∧ q (16 + 5 * k) = r (16 + 5 * k)
theorem sameD_open {r : Ro} {s : WS} (h : sameD r s.1) (k : Nat) : sameD r (wOpen s k).1.1 ∧ (wOpen s k).1.2.1 = s.2.1 := by
  unfold wOpen
  split
  · exact ⟨h, rfl⟩
  · split
    · exact ⟨h, rfl⟩
    · refine ⟨⟨?_, fun j => ⟨?_, ?_⟩⟩, rfl⟩
      · show uN s.1 (18 + 5 * k) _ 0 = r 0
        rw [uN_n _ (by omega)]; exact h.1
      · show uN s.1 (18 + 5 * k) _ (15 + 5 * j) = _
        rw [uN_n _ (by omega)]; exact (h.2 j).1
      · show uN s.1 (18 + 5 * k) _ (16 + 5 * j) = _
        rw [uN_n _ (by omega)]; exact (h.2 j).2
theorem thr_bey {r : Ro} {s : WS} (h : sameD r s.1) {k : Nat} (a : s.2.1 = r (15 + 5 * k) ∨ s.2.1 = r (16 + 5 * k)) : (through s k).2.1 = beyW r k s.2.1 := by
  show s.1 (15 + 5 * k) + s.1 (16 + 5 * k) - s.2.1 = _
  rw [(h.2 k).1, (h.2 k).2]
  unfold beyW
  by_cases e : s.2.1 = r (15 + 5 * k)
  · rw [if_pos e]; omega
  · rw [if_neg e]; omega
theorem jn_pass {r : Ro} {s : WS} (h : sameD r s.1) {k : Nat} (hk : k < r 0) (h8 : r 0 ≤ 8) : sameD r (wPass s (nI k)).1.1 ∧ ((wPass s (nI k)).2 = 0 → (s.2.1 = r (15 + 5 * k) ∨ s.2.1 = r (16 + 5 * k)) ∧ (wPass s (nI k)).1.2.1 = beyW r k s.2.1) := by
  have e0 : 0 ≤ (nI k).toInt ∧ (nI k).toInt < s.1 0 := by rw [toInt_nI (by omega), h.1]; omega
  rw [wPass, if_pos e0, nI_clamp (show k < 2 ^ 31 by omega), wPassK, (h.2 k).1, (h.2 k).2]
  by_cases a : s.2.1 = r (15 + 5 * k) ∨ s.2.1 = r (16 + 5 * k)
  · rw [if_pos a]
    by_cases b : k ∈ s.2.2.2.2.1
    · rw [if_pos b]
      exact ⟨h, fun _ => ⟨a, thr_bey h a⟩⟩
    · rw [if_neg b]
      have so := sameD_open h k
      by_cases c : (wOpen s k).2 = 0
      · rw [if_pos c]
        refine ⟨so.1, fun _ => ⟨a, ?_⟩⟩
        have q := thr_bey (s := (wOpen s k).1) so.1 (k := k) (by rw [so.2]; exact a)
        rw [so.2] at q
        exact q
      · rw [if_neg c]
        exact ⟨so.1, fun q => absurd q c⟩
  · rw [if_neg a]
    exact ⟨h, fun q => absurd (show 6 = 0 from q) (by decide)⟩
theorem jn_run {r : Ro} (h8 : r 0 ≤ 8) : ∀ (p : List Nat) (s : WS), sameD r s.1 → (∀ k ∈ p, k < r 0) → (wRun (p.map nI) s).2 = 0 → jnW r s.2.1 p = some (wRun (p.map nI) s).1.2.1
  | [], s, _, _, _ => rfl
  | k :: p, s, h, hp, h0 => by
    rw [List.map_cons, wRun] at h0 ⊢
    have q := jn_pass h (hp k List.mem_cons_self) h8
    by_cases a : (wPass s (nI k)).2 = 0
    · rw [if_pos a] at h0 ⊢
      obtain ⟨q1, q2⟩ := q.2 a
      rw [jnW, if_pos q1, ← q2]
      exact jn_run h8 p _ q.1 (fun j hj => hp j (List.mem_cons_of_mem _ hj)) h0
    · rw [if_neg a] at h0; exact absurd h0 a
theorem jn_go {r : Ro} (h8 : r 0 ≤ 8) {p : List Nat} (hp : ∀ k ∈ p, k < r 0) (h0 : (wGo r (p.map nI)).2.1 = 0) : jnW r 0 p = some (wGo r (p.map nI)).1.2.1 := by
  unfold wGo at h0 ⊢
  rw [wTake_op]
  exact jn_run h8 p (start r) ⟨rfl, fun _ => ⟨rfl, rfl⟩⟩ hp (wTake_0 _ h0)
theorem rf_none {r : Ro} (h8 : r 0 ≤ 8) (goal : Nat) : ∀ (m : Nat) (p : List Nat), (∀ k ∈ p, k < r 0) → jnW r 0 p = none → rfW r goal m p = none
  | 0, p, hp, h => by
    rw [rfW, leafW, if_neg]
    intro q
    rw [jn_go h8 hp q.1] at h
    cases h
  | m + 1, p, hp, h => by
    rw [rfW]
    refine srch_none _ _ (fun k _ hk => rf_none h8 goal m _ ?_ ?_)
    · intro j hj
      rcases List.mem_append.mp hj with q | q
      · exact hp j q
      · rw [List.mem_singleton.mp q]; omega
    · rw [jnW_app, h]
theorem fw_rf {r : Ro} (h8 : r 0 ≤ 8) (goal : Nat) : ∀ (m rm : Nat) (p : List Nat), (∀ k ∈ p, k < r 0) → jnW r 0 p = some rm → fwW r goal m rm p = rfW r goal m p
  | 0, rm, p, hp, h => by
    rw [fwW, rfW, leafW]
    by_cases a : (wGo r (p.map nI)).2.1 = 0
    · have e : rm = (wGo r (p.map nI)).1.2.1 := Option.some.inj (h.symm.trans (jn_go h8 hp a))
      by_cases b : rm = goal
      · rw [if_pos ⟨b, a⟩, if_pos ⟨a, e.symm.trans b⟩]
      · rw [if_neg (fun q => b q.1), if_neg (fun q => b (e.trans q.2))]
    · rw [if_neg (fun q => a q.2), if_neg (fun q => a q.1)]
  | m + 1, rm, p, hp, h => by
    rw [fwW, rfW]
    refine srch_cong _ _ (fun k _ hk => ?_)
    have hp' : ∀ j ∈ p ++ [k], j < r 0 := fun j hj => by
      rcases List.mem_append.mp hj with q | q
      · exact hp j q
      · rw [List.mem_singleton.mp q]; omega
    have e := jnW_app r k p 0
    rw [h] at e
    by_cases a : rm = r (15 + 5 * k) ∨ rm = r (16 + 5 * k)
    · simp only [if_pos a] at e ⊢
      exact fw_rf h8 goal m _ _ hp' e
    · simp only [if_neg a] at e ⊢
      exact (rf_none h8 goal m _ hp' e).symm
theorem rf_rows {r : Ro} (h0 : 0 < r 0) (goal : Nat) : ∀ (m : Nat) (p : List Nat) (base : Nat), dg (r 0) p.length base = p → rfW r goal m p = srch (fun v => leafW r goal (dg (r 0) (p.length + m) v)) (r 0 ^ m) (base * r 0 ^ m)
  | 0, p, base, h => by
    rw [rfW, Nat.pow_zero, Nat.mul_one, srch, Nat.add_zero, h, srch]
    cases leafW r goal p <;> rfl
  | m + 1, p, base, h => by
    rw [rfW]
    have e := srch_blocks (fun v => leafW r goal (dg (r 0) (p.length + (m + 1)) v)) (r 0 ^ m) (base * r 0 ^ (m + 1)) (r 0) 0
    rw [Nat.zero_mul, Nat.add_zero, ← Nat.pow_succ'] at e
    refine Eq.trans ?_ e
    refine srch_cong _ _ (fun k _ hk => ?_)
    have hk : k < r 0 := by omega
    have q := rf_rows h0 goal m (p ++ [k]) (base * r 0 + k) (by
      rw [List.length_append]
      show dg (r 0) (p.length + 1) (base * r 0 + k) = _
      rw [dg, show base * r 0 + k = k + r 0 * base by rw [Nat.mul_comm]; omega, Nat.add_mul_div_left _ _ h0, Nat.div_eq_of_lt hk, Nat.zero_add, h, Nat.add_mul_mod_self_left, Nat.mod_eq_of_lt hk])
    rw [q, List.length_append, show p.length + [k].length + m = p.length + (m + 1) by simp only [List.length_cons, List.length_nil]; omega]
    congr 1
    rw [Nat.add_mul, Nat.pow_succ', Nat.mul_assoc]
/-- the first way of n doors, by both -/
theorem way_eq {r : Ro} (h0 : 0 < r 0) (h8 : r 0 ≤ 8) (goal n : Nat) : fwW r goal n 0 [] = srch (fun v => leafW r goal (dg (r 0) n v)) (r 0 ^ n) 0 := by
  rw [fw_rf h8 goal n 0 [] (fun k hk => by cases hk) rfl]
  have q := rf_rows h0 goal n [] 0 rfl
  rw [Nat.zero_mul] at q
  rw [q]
  simp only [List.length_nil, Nat.zero_add]
