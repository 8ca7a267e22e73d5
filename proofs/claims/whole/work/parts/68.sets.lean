/-! THE CALL sets -/
def sF (P : Nat → Bool) : Nat → Nat → Nat × Nat × Nat → Nat × Nat × Nat
  | 0, _, t => t
  | c + 1, j, t => sF P c (j + 1) (if P j = true then (t.1 + 1, (if t.1 = 0 then j else t.2.1 &&& j), t.2.2 ||| j) else t)
theorem sF_app (P : Nat → Bool) : ∀ (a b j : Nat) (t : Nat × Nat × Nat), sF P (a + b) j t = sF P b (j + a) (sF P a j t)
  | 0, b, j, t => by rw [Nat.zero_add]; rfl
  | a + 1, b, j, t => by
    rw [show a + 1 + b = (a + b) + 1 by omega, sF, sF, sF_app P a b (j + 1), show j + 1 + a = j + (a + 1) by omega]
theorem sF_skip (P : Nat → Bool) : ∀ (c j : Nat) (t : Nat × Nat × Nat), (∀ k, j ≤ k → k < j + c → P k = false) → sF P c j t = t
  | 0, _, _, _ => rfl
  | c + 1, j, t, h => by
    rw [sF, if_neg (by rw [h j (Nat.le_refl _) (by omega)]; decide)]
    exact sF_skip P c (j + 1) t (fun k a b => h k (by omega) (by omega))
theorem sF_cong {P Q : Nat → Bool} : ∀ (c j : Nat) (t : Nat × Nat × Nat), (∀ k, j ≤ k → k < j + c → P k = Q k) → sF P c j t = sF Q c j t
  | 0, _, _, _ => rfl
  | c + 1, j, t, h => by
    rw [sF, sF, h j (Nat.le_refl _) (by omega)]
    exact sF_cong c (j + 1) _ (fun k a b => h k (by omega) (by omega))
def filN (r : Ro) : Nat → Nat
  | 0 => 0
  | k + 1 => if r (6 + k) = 0 then filN r k else filN r k ||| 2 ^ k
def fulB (r : Ro) (s : Nat) : Nat → Bool
  | 0 => true
  | k + 1 => fulB r s k && (!(s.testBit k) || !decide (r (6 + k) = 0))
theorem filN_tb (r : Ro) : ∀ (k i : Nat), (filN r k).testBit i = (decide (i < k) && !decide (r (6 + i) = 0))
  | 0, i => by simp [filN]
  | k + 1, i => by
    rw [filN]
    by_cases z : r (6 + k) = 0
    · rw [if_pos z, filN_tb r k i]
      by_cases e : i = k
      · subst e; simp [z]
      · by_cases l : i < k
        · simp [l, show i < k + 1 by omega]
        · simp [l, show ¬ i < k + 1 by omega]
    · rw [if_neg z, Nat.testBit_or, filN_tb r k i, Nat.testBit_two_pow]
      by_cases e : k = i
      · subst e; simp [z]
      · by_cases l : i < k
        · simp [l, e, show i < k + 1 by omega]
        · simp [l, e, show ¬ i < k + 1 by omega]
theorem filN_lt (r : Ro) (k : Nat) : filN r k < 2 ^ k := by
  apply Nat.lt_pow_two_of_testBit
  intro i hi
  rw [filN_tb, decide_eq_false (by omega)]
  rfl
theorem fulB_t (r : Ro) (s : Nat) : ∀ k, fulB r s k = true ↔ ∀ i, i < k → s.testBit i = true → r (6 + i) ≠ 0
  | 0 => by simp [fulB]
  | k + 1 => by
    rw [fulB, Bool.and_eq_true, fulB_t r s k]
    constructor
    · intro h i hi hs
      by_cases e : i = k
      · subst e
        have h2 := h.2
        rw [hs] at h2
        simpa using h2
      · exact h.1 i (by omega) hs
    · intro h
      refine ⟨fun i hi hs => h i (by omega) hs, ?_⟩
      cases e : s.testBit k with
      | false => rfl
      | true =>
        have := h k (by omega) e
        simp [this]
theorem ful_sub {r : Ro} {s k : Nat} (hs : s < 2 ^ k) : fulB r s k = decide (s &&& filN r k = s) := by
  rw [Bool.eq_iff_iff, fulB_t, decide_eq_true_eq, ← nd_sub]
  constructor
  · intro h j hj
    have hjk : j < k := by
      rcases Nat.lt_or_ge j k with q | q
      · exact q
      · have : s < 2 ^ j := Nat.lt_of_lt_of_le hs (Nat.pow_le_pow_right (by decide) q)
        rw [Nat.testBit_lt_two_pow this] at hj; cases hj
    rw [filN_tb, decide_eq_true hjk, decide_eq_false (h j hjk hj)]
    rfl
  · intro h i hi hj
    have q := h i hj
    rw [filN_tb, Bool.and_eq_true] at q
    have q2 := q.2
    simpa using q2
theorem sub_big {F s k : Nat} (hF : F < 2 ^ k) (hs : 2 ^ k ≤ s) : ¬ s &&& F = s := by
  intro e
  have : s &&& F ≤ F := Nat.and_le_right
  omega
theorem wset_le {r : Ro} {N : Nat} (hw : wf r N) (s : Nat) : ∀ k, k ≤ 8 → wset r s k ≤ 20 * k
  | 0, _ => by simp [wset]
  | k + 1, h => by
    have q := wset_le hw s k (by omega)
    have q2 := hw.2.2.2.2.2.1 k (by omega)
    rw [wset]
    split <;> omega
section Sets
variable {I : Nat → Nat → Int32} {D : Nat → Nat → Option Nat} {K : Nat → Nat} {n N : Nat} {Z : Nat → Cl} {r : Ro}
def sP (r : Ro) (v j : Nat) : Bool := decide (j &&& filN r (r 1) = j) && decide (wset r j (r 1) = v)
theorem c_fil_L (hc : CH I D K n 9 r) (hw : wf r N) {β : Type} (kk : Int32 → Int32 → Hp → Option β) : ∀ (d fuel k : Nat), k + d = r 1 → d < fuel → f_X3_filledRooms_L4 kk 9 fuel (enc I D K n Z) (nI (filN r k)) (nI k) = kk (nI (filN r (r 1))) (nI (r 1)) (enc I D K n Z) := by
  have r18 := hw.le8.1
  intro d
  induction d with
  | zero =>
    intro fuel k hk hf
    obtain ⟨f, rfl⟩ : ∃ f, fuel = f + 1 := ⟨fuel - 1, by omega⟩
    have e : k = r 1 := by omega
    subst e
    rw [f_X3_filledRooms_L4, g9_3, bA_s, hc.1.1, if_pos (nI_le (Nat.le_refl _) (by omega))]
  | succ d ih =>
    intro fuel k hk hf
    obtain ⟨f, rfl⟩ : ∃ f, fuel = f + 1 := ⟨fuel - 1, by omega⟩
    have l : ald (enc I D K n Z) 10 0 (nI k) = some (nI (r (6 + k))) := by
      rw [← hc.2.1 k (by omega)]; exact ald_n (s_H1 h9) k (by omega) (by decide)
    have h6 := hw.2.2.2.2.2.1 k (by omega)
    have ew : (nI (r (6 + k)) = (0 : Int32)) = (r (6 + k) = 0) := z_eq (by omega) (by decide)
    have q := ih f (k + 1) (by omega) (by omega)
    rw [f_X3_filledRooms_L4, g9_3, bA_s, hc.1.1, if_neg (nI_ge (show k < r 1 by omega) (by omega)), r9_0, bA_s, l, bA_s, ← q, filN, z_i2, sh1 k (by omega), fa_or]
    by_cases z : r (6 + k) = 0
    · rw [if_pos (ew.mpr z), if_pos z, bA_s]
    · rw [if_neg (fun y => z (ew.mp y)), if_neg z, bA_s]
theorem c_fil (hc : CH I D K n 9 r) (hw : wf r N) : f_X3_filledRooms (enc I D K n Z) 9 = some (nI (filN r (r 1)), enc I D K n Z) := c_fil_L hc hw (fun y13 y14 h12 => some (y13, h12)) (r 1) 2000 0 (by omega) (by have := hw.le8.1; omega)
theorem c_sets_L (hc : CH I D K n 9 r) (hw : wf r N) {v : Nat} (hv : v ≤ 160) (x2 : Int32) {β : Type} (kk : Int32 → Int32 → Int32 → Int32 → Hp → Option β) : ∀ (c fuel j : Nat) (t : Nat × Nat × Nat), j + c = 256 → c < fuel → t.1 + c < 2000 → f_X11_sets_L56 kk 0 (nI v) x2 (nI (filN r (r 1))) fuel (enc I D K n Z) (nI t.1) (nI (if t.1 = 0 then filN r (r 1) else t.2.1)) (nI t.2.2) (nI j) = kk (nI (sF (sP r v) c j t).1) (nI (if (sF (sP r v) c j t).1 = 0 then filN r (r 1) else (sF (sP r v) c j t).2.1)) (nI (sF (sP r v) c j t).2.2) (nI 256) (enc I D K n Z) := by
  have r18 := hw.le8.1
  have hF : filN r (r 1) < 256 := Nat.lt_of_lt_of_le (filN_lt r (r 1)) (Nat.le_trans (Nat.pow_le_pow_right (by decide) r18) (by decide))
  intro c
  induction c with
  | zero =>
    intro fuel j t hj hf ht
    obtain ⟨f, rfl⟩ : ∃ f, fuel = f + 1 := ⟨fuel - 1, by omega⟩
    have e : j = 256 := by omega
    subst e
    rw [f_X11_sets_L56, if_pos (show (256 : Int32) ≤ nI 256 by decide), sF]
  | succ c ih =>
    intro fuel j t hj hf ht
    obtain ⟨f, rfl⟩ : ∃ f, fuel = f + 1 := ⟨fuel - 1, by omega⟩
    have n256 : ¬ (256 : Int32) ≤ nI j := nI_ge (b := 256) (by omega) (by decide)
    have hws := wset_le hw j (r 1) r18
    have ev : (nI (wset r j (r 1)) = nI v) = (wset r j (r 1) = v) := z_eq (by omega) (by omega)
    have q := ih f (j + 1) (if sP r v j = true then (t.1 + 1, (if t.1 = 0 then j else t.2.1 &&& j), t.2.2 ||| j) else t) (by omega) (by omega) (by
      by_cases p : sP r v j = true
      · rw [if_pos p]; show t.1 + 1 + c < 2000; omega
      · rw [if_neg p]; omega)
    have es : sF (sP r v) (c + 1) j t = sF (sP r v) c (j + 1) (if sP r v j = true then (t.1 + 1, (if t.1 = 0 then j else t.2.1 &&& j), t.2.2 ||| j) else t) := rfl
    simp only [es]
    rw [← q, f_X11_sets_L56, if_neg n256]
    simp only [andnot' (show j < 256 by omega) hF]
    by_cases a : j &&& filN r (r 1) = j
    · simp only [if_pos a, r0_3, bA_s, c9, c_wof h9 hc r18 (show j < 2 ^ 31 by omega), b2_s, ev]
      by_cases b : wset r j (r 1) = v
      · have e : sP r v j = true := by unfold sP; rw [decide_eq_true a, decide_eq_true b]; rfl
        have e2 : nI (if t.1 = 0 then filN r (r 1) else t.2.1) &&& nI j = nI (if t.1 = 0 then j else t.2.1 &&& j) := by
          rw [fa_and]
          by_cases z : t.1 = 0
          · rw [if_pos z, if_pos z, Nat.and_comm, a]
          · rw [if_neg z, if_neg z]
        simp only [if_pos b, if_pos e, b4_s, z_i2, e2, fa_or, if_neg (show ¬ t.1 + 1 = 0 by omega)]
      · have e : ¬ sP r v j = true := by unfold sP; rw [decide_eq_false b, Bool.and_false]; decide
        simp only [if_neg b, if_neg e, b4_s, z_i2]
    · have e : ¬ sP r v j = true := by unfold sP; rw [decide_eq_false a, Bool.false_and]; decide
      simp only [if_neg a, if_neg e, b4_s, z_i2]
theorem m_set_L {J : Nat → Nat → Int32} (hM : MH (J 166) r) (hw : wf r N) (x1 x2 x3 x4 x5 : Int32) {s : Nat} (hs : s < 2 ^ 31) {β : Type} (kk : Int32 → Int32 → Int32 → Hp → Option β) : ∀ (d fuel k : Nat), k + d = r 1 → d < fuel → f_X12_sets_L75 kk 162 x1 x2 x3 x4 x5 (nI s) fuel (enc J D K n Z) (nI (wset r s k)) (if fulB r s k = true then 1 else 0) (nI k) = kk (nI (wset r s (r 1))) (if fulB r s (r 1) = true then 1 else 0) (nI (r 1)) (enc J D K n Z) := by
  have r18 := hw.le8.1
  have l1 : ald (enc J D K n Z) 166 0 (1 : Int32) = some (nI (r 1)) := by
    have z := ald_n (I := J) (D := D) (K := K) (n := n) (Z := Z) s_166 1 (by decide) (by decide)
    rw [hM 1 (by decide)] at z
    exact z
  intro d
  induction d with
  | zero =>
    intro fuel k hk hf
    obtain ⟨f, rfl⟩ : ∃ f, fuel = f + 1 := ⟨fuel - 1, by omega⟩
    have e : k = r 1 := by omega
    subst e
    rw [f_X12_sets_L75, r162_5, bA_s, l1, bA_s, if_pos (nI_le (Nat.le_refl _) (by omega))]
  | succ d ih =>
    intro fuel k hk hf
    obtain ⟨f, rfl⟩ : ∃ f, fuel = f + 1 := ⟨fuel - 1, by omega⟩
    have e6 : (6 : Int32) + nI k = nI (6 + k) := nI_add 6 k
    have lw : ald (enc J D K n Z) 166 0 (nI (6 + k)) = some (nI (r (6 + k))) := by
      have z := ald_n (I := J) (D := D) (K := K) (n := n) (Z := Z) s_166 (6 + k) (by omega) (by decide)
      rw [hM _ (by omega)] at z
      exact z
    have h6 := hw.2.2.2.2.2.1 k (by omega)
    have ew : (nI (r (6 + k)) ≤ (0 : Int32)) = (r (6 + k) ≤ 0) := z_le (m := 0) (by omega) (by decide)
    have q := ih f (k + 1) (by omega) (by omega)
    rw [f_X12_sets_L75, r162_5, bA_s, l1, bA_s, if_neg (nI_ge (show k < r 1 by omega) (by omega)), ← q, wset, fulB]
    simp only [m_has hs (show k < 31 by omega), b2_s, r162_5, bA_s, e6, lw, ew, z_i2]
    cases b : s.testBit k with
    | false =>
      cases a : fulB r s k with
      | false => simp only [Bool.false_eq_true, if_false, if_true, bA_s, b2_s, Bool.false_and, nI_add, show nI (wset r s k) + (0 : Int32) = nI (wset r s k + 0) from nI_add _ 0]
      | true => simp only [Bool.false_eq_true, if_false, if_true, bA_s, b2_s, Bool.not_false, Bool.true_or, Bool.and_self, if_neg one0, nI_add, show nI (wset r s k) + (0 : Int32) = nI (wset r s k + 0) from nI_add _ 0]
    | true =>
      cases a : fulB r s k with
      | false => simp only [Bool.false_eq_true, if_false, if_true, bA_s, b2_s, Bool.false_and, nI_add, if_neg one0]
      | true =>
        by_cases z : r (6 + k) ≤ 0
        · have z' : r (6 + k) = 0 := by omega
          simp only [if_true, if_neg one0, bA_s, b2_s, if_pos z, nI_add, Bool.not_true, Bool.false_or, Bool.true_and, decide_eq_true z', Bool.false_eq_true, if_false]
        · have z' : ¬ r (6 + k) = 0 := by omega
          simp only [if_true, if_neg one0, bA_s, b2_s, if_neg z, nI_add, Bool.not_true, Bool.false_or, Bool.true_and, decide_eq_false z', Bool.not_false]
theorem m_sets_L {J : Nat → Nat → Int32} (hM : MH (J 166) r) (hw : wf r N) {v : Nat} (hv : v ≤ 160) (x2 : Int32) {β : Type} (kk : Int32 → Int32 → Int32 → Int32 → Hp → Option β) : ∀ (c fuel j : Nat) (t : Nat × Nat × Nat), j + c = 2 ^ r 1 → c < fuel → t.1 + c < 2000 → f_X12_sets_L53 kk 162 (nI v) x2 fuel (enc J D K n Z) (nI t.1) (nI t.2.1) (nI t.2.2) (nI j) = kk (nI (sF (sP r v) c j t).1) (nI (sF (sP r v) c j t).2.1) (nI (sF (sP r v) c j t).2.2) (nI (2 ^ r 1)) (enc J D K n Z) := by
  have r18 := hw.le8.1
  have hp : 2 ^ r 1 ≤ 256 := Nat.le_trans (Nat.pow_le_pow_right (by decide) r18) (by decide)
  have l1 : ald (enc J D K n Z) 166 0 (1 : Int32) = some (nI (r 1)) := by
    have z := ald_n (I := J) (D := D) (K := K) (n := n) (Z := Z) s_166 1 (by decide) (by decide)
    rw [hM 1 (by decide)] at z
    exact z
  intro c
  induction c with
  | zero =>
    intro fuel j t hj hf ht
    obtain ⟨f, rfl⟩ : ∃ f, fuel = f + 1 := ⟨fuel - 1, by omega⟩
    have e : j = 2 ^ r 1 := by omega
    subst e
    rw [f_X12_sets_L53, r162_5, bA_s, l1, bA_s, sh1 (r 1) (by omega), if_pos (nI_le (Nat.le_refl _) (by omega)), sF]
  | succ c ih =>
    intro fuel j t hj hf ht
    obtain ⟨f, rfl⟩ : ∃ f, fuel = f + 1 := ⟨fuel - 1, by omega⟩
    have hws := wset_le hw j (r 1) r18
    have ev : (nI (wset r j (r 1)) = nI v) = (wset r j (r 1) = v) := z_eq (by omega) (by omega)
    have et : (nI t.1 = (0 : Int32)) = (t.1 = 0) := z_eq (by omega) (by decide)
    have q := ih f (j + 1) (if sP r v j = true then (t.1 + 1, (if t.1 = 0 then j else t.2.1 &&& j), t.2.2 ||| j) else t) (by omega) (by omega) (by
      by_cases p : sP r v j = true
      · rw [if_pos p]; show t.1 + 1 + c < 2000; omega
      · rw [if_neg p]; omega)
    have es : sF (sP r v) (c + 1) j t = sF (sP r v) c (j + 1) (if sP r v j = true then (t.1 + 1, (if t.1 = 0 then j else t.2.1 &&& j), t.2.2 ||| j) else t) := rfl
    have inner := m_set_L (D := D) (K := K) (n := n) (Z := Z) hM hw (nI v) x2 (nI t.1) (nI t.2.1) (nI t.2.2) (s := j) (by omega) (fun y77 y78 y79 h76 => b3 (if y78 = 0 then some (nI t.1, nI t.2.1, nI t.2.2) else (if y77 = nI v then bA (if nI t.1 = 0 then some (nI j) else some (nI t.2.1 &&& nI j)) fun j88 => some ((nI t.1 + (1 : Int32)), j88, (nI t.2.2 ||| nI j)) else some (nI t.1, nI t.2.1, nI t.2.2))) fun j81 j82 j83 => f_X12_sets_L53 kk 162 (nI v) x2 f h76 j81 j82 j83 (nI j + (1 : Int32))) (r 1) 2000 0 (by omega) (by omega)
    simp only [es]
    rw [← q, f_X12_sets_L53, r162_5, bA_s, l1, bA_s, sh1 (r 1) (by omega), if_neg (nI_ge (show j < 2 ^ r 1 by omega) (by omega))]
    refine Eq.trans inner ?_
    rw [ful_sub (show j < 2 ^ r 1 by omega)]
    by_cases a : j &&& filN r (r 1) = j
    · simp only [decide_eq_true a, if_true, if_neg one0, ev]
      by_cases b : wset r j (r 1) = v
      · have e : sP r v j = true := by unfold sP; rw [decide_eq_true a, decide_eq_true b]; rfl
        simp only [if_pos b, if_pos e, et]
        by_cases z : t.1 = 0
        · simp only [if_pos z, bA_s, b3_s, z_i2, fa_or]
        · simp only [if_neg z, bA_s, b3_s, z_i2, fa_or, fa_and]
      · have e : ¬ sP r v j = true := by unfold sP; rw [decide_eq_false b, Bool.and_false]; decide
        simp only [if_neg b, if_neg e, b3_s, z_i2]
    · have e : ¬ sP r v j = true := by unfold sP; rw [decide_eq_false a, Bool.false_and]; decide
      simp only [decide_eq_false a, Bool.false_eq_true, if_false, if_true, if_neg e, b3_s, z_i2]
end Sets
