/-! CALLS THAT COUNT: room, count -/
def dset (r : Ro) (m : Nat) : Nat → Nat
  | 0 => 0
  | k + 1 => if m = r (15 + 5 * k) ∨ m = r (16 + 5 * k) then dset r m k ||| 2 ^ k else dset r m k
def wset (r : Ro) (s : Nat) : Nat → Nat
  | 0 => 0
  | k + 1 => wset r s k + (if s.testBit k = true then r (6 + k) else 0)
def wsum (r : Ro) : Nat → Nat
  | 0 => 0
  | k + 1 => wsum r k + r (6 + k)
def wears (r : Ro) : Nat → Nat
  | 0 => 0
  | k + 1 => wears r k + r (18 + 5 * k)
def rcnt (I : Nat → Nat → Int32) : Nat → Nat
  | 0 => 0
  | k + 1 => rcnt I k + (if (0 : Int32) ≤ I 163 k then 1 else 0)
theorem wset_255 (r : Ro) : ∀ k, k ≤ 8 → wset r 255 k = wsum r k
  | 0, _ => rfl
  | k + 1, h => by
    have e : (255 : Nat).testBit k = true := by
      rcases (show k = 0 ∨ k = 1 ∨ k = 2 ∨ k = 3 ∨ k = 4 ∨ k = 5 ∨ k = 6 ∨ k = 7 by omega) with rfl | rfl | rfl | rfl | rfl | rfl | rfl | rfl <;> decide
    rw [wset, wsum, if_pos e, wset_255 r k (by omega)]
section Counts
variable {I I' : Nat → Nat → Int32} {D : Nat → Nat → Option Nat} {K : Nat → Nat} {n N : Nat} {Z : Nat → Cl} {r : Ro}
theorem c_dof_L {a : Nat} (ha : isH a) (hc : CH I D K n a r) (hw : wf r N) {m : Nat} (hm : m < 2 ^ 31) {β : Type} (kk : Int32 → Int32 → Hp → Option β) : ∀ (d fuel k : Nat), k + d = r 0 → d < fuel → f_X3_doorsOf_L4 kk a (nI m) fuel (enc I D K n Z) (nI (dset r m k)) (nI k) = kk (nI (dset r m (r 0))) (nI (r 0)) (enc I D K n Z) := by
  have r08 := hw.le8.2
  have r18 := hw.le8.1
  intro d
  induction d with
  | zero =>
    intro fuel k hk hf
    obtain ⟨f, rfl⟩ : ∃ f, fuel = f + 1 := ⟨fuel - 1, by omega⟩
    have e : k = r 0 := by omega
    subst e
    rw [f_X3_doorsOf_L4]
    simp only [gI_e (s_H ha) 4 rfl, bA_s, hc.1.2.1]
    rw [if_pos (nI_le (Nat.le_refl _) (by omega))]
  | succ d ih =>
    intro fuel k hk hf
    obtain ⟨f, rfl⟩ : ∃ f, fuel = f + 1 := ⟨fuel - 1, by omega⟩
    have hkr : k < r 0 := by omega
    obtain ⟨q, hq1, hq2⟩ := hc.2.2.2 k hkr
    obtain ⟨u1, u2, u3, u4, u5, u6⟩ := hw.2.2.2.2.2.2 k hkr
    rw [f_X3_doorsOf_L4]
    simp only [gI_e (s_H ha) 4 rfl, bA_s, hc.1.2.1]
    rw [if_neg (nI_ge (by omega) (by omega))]
    simp only [isC_e (s_H ha), bA_s, c_doorAt_in ha r08 hc.1.2.1 hkr, b2_s, hq1, gC_e hq2.1, d_leads hq2 m hm (by omega) (by omega), sh1 k (by omega), fa_or, z_i2]
    have e := ih f (k + 1) (by omega) (by omega)
    rw [dset] at e
    by_cases hl : m = r (15 + 5 * k) ∨ m = r (16 + 5 * k)
    · rw [if_pos hl] at e
      simp only [if_pos hl, if_neg one0, b2_s]
      exact e
    · rw [if_neg hl] at e
      simp only [if_neg hl, if_true, b2_s]
      exact e
theorem m_room_L (hM : MH (I 166) r) (hw : wf r N) {m : Nat} (hm : m < 2 ^ 31) (x2 : Int32) {β : Type} (kk : Int32 → Int32 → Hp → Option β) : ∀ (d fuel k : Nat), k + d = r 0 → d < fuel → f_X12_room_L31 kk 162 (nI m) x2 fuel (enc I D K n Z) (nI (dset r m k)) (nI k) = kk (nI (dset r m (r 0))) (nI (r 0)) (enc I D K n Z) := by
  have r08 := hw.le8.2
  have r18 := hw.le8.1
  have l0 : ald (enc I D K n Z) 166 0 (0 : Int32) = some (nI (r 0)) := by rw [← hM 0 (by decide)]; exact ald_n s_166 0 (by decide) (by decide)
  intro d
  induction d with
  | zero =>
    intro fuel k hk hf
    obtain ⟨f, rfl⟩ : ∃ f, fuel = f + 1 := ⟨fuel - 1, by omega⟩
    have e : k = r 0 := by omega
    subst e
    rw [f_X12_room_L31]
    simp only [r162_5, bA_s, l0]
    rw [if_pos (nI_le (Nat.le_refl _) (by omega))]
  | succ d ih =>
    intro fuel k hk hf
    obtain ⟨f, rfl⟩ : ∃ f, fuel = f + 1 := ⟨fuel - 1, by omega⟩
    have hkr : k < r 0 := by omega
    have hk8 : k < 8 := by omega
    obtain ⟨u1, u2, u3, u4, u5, u6⟩ := hw.2.2.2.2.2.2 k hkr
    rw [f_X12_room_L31]
    simp only [r162_5, bA_s, l0]
    rw [if_neg (nI_ge (by omega) (by omega))]
    simp only [bA_s, m_of1 R166 hM hk8, m_of2 R166 hM hk8, b2_s, z_eq (show r (15 + 5 * k) < 2 ^ 31 by omega) hm, z_eq (show r (16 + 5 * k) < 2 ^ 31 by omega) hm, sh1 k (by omega), z_i2]
    have e := ih f (k + 1) (by omega) (by omega)
    rw [dset] at e
    by_cases h1 : r (15 + 5 * k) = m
    · rw [if_pos (Or.inl h1.symm)] at e
      simp only [if_pos h1, b2_s, fa_or]
      exact e
    · by_cases h2 : r (16 + 5 * k) = m
      · rw [if_pos (Or.inr h2.symm)] at e
        simp only [if_neg h1, r162_5, bA_s, m_of2 R166 hM hk8, b2_s, z_eq (show r (16 + 5 * k) < 2 ^ 31 by omega) hm, if_pos h2, fa_or]
        exact e
      · rw [if_neg (by omega)] at e
        simp only [if_neg h1, r162_5, bA_s, m_of2 R166 hM hk8, b2_s, z_eq (show r (16 + 5 * k) < 2 ^ 31 by omega) hm, if_neg h2]
        rw [show (0 : Int32) = nI 0 from rfl, fa_or, Nat.or_zero]
        exact e
theorem c_wof_L {a : Nat} (ha : isH a) (hc : CH I D K n a r) (r18 : r 1 ≤ 8) {s : Nat} (hs : s < 2 ^ 31) {β : Type} (kk : Int32 → Int32 → Hp → Option β) : ∀ (d fuel k : Nat), k + d = r 1 → d < fuel → f_X3_weightOf_L4 kk a (nI s) fuel (enc I D K n Z) (nI (wset r s k)) (nI k) = kk (nI (wset r s (r 1))) (nI (r 1)) (enc I D K n Z) := by
  intro d
  induction d with
  | zero =>
    intro fuel k hk hf
    obtain ⟨f, rfl⟩ : ∃ f, fuel = f + 1 := ⟨fuel - 1, by omega⟩
    have e : k = r 1 := by omega
    subst e
    rw [f_X3_weightOf_L4]
    simp only [gI_e (s_H ha) 3 rfl, bA_s, hc.1.1]
    rw [if_pos (nI_le (Nat.le_refl _) (by omega))]
  | succ d ih =>
    intro fuel k hk hf
    obtain ⟨f, rfl⟩ : ∃ f, fuel = f + 1 := ⟨fuel - 1, by omega⟩
    have hkr : k < r 1 := by omega
    rw [f_X3_weightOf_L4]
    simp only [gI_e (s_H ha) 3 rfl, bA_s, hc.1.1]
    rw [if_neg (nI_ge (by omega) (by omega))]
    simp only [bit_z hs (show k < 31 by omega), gN_e (s_H ha) 0 rfl, bA_s, ald_n (s_H1 ha) k (show k < 8 by omega) (by decide), hc.2.1 k hkr, nI_add, z_i2]
    have e := ih f (k + 1) (by omega) (by omega)
    rw [wset] at e
    by_cases hb : s.testBit k = true
    · rw [if_pos hb] at e
      rw [if_neg (by rw [hb]; decide), bA_s]
      exact e
    · rw [if_neg hb] at e
      rw [if_pos (by simpa using hb), bA_s]
      exact e
theorem c_wof {a : Nat} (ha : isH a) (hc : CH I D K n a r) (r18 : r 1 ≤ 8) {s : Nat} (hs : s < 2 ^ 31) : f_X3_weightOf (enc I D K n Z) a (nI s) = some (nI (wset r s (r 1)), enc I D K n Z) := c_wof_L ha hc r18 hs (fun y13 y14 h12 => some (y13, h12)) (r 1) 2000 0 (by omega) (by omega)
theorem c_woa {a : Nat} (ha : isH a) (hc : CH I D K n a r) (r18 : r 1 ≤ 8) : f_X3_weightOfAll (enc I D K n Z) a = some (nI (wsum r (r 1)), enc I D K n Z) := by
  simp only [f_X3_weightOfAll, isC_e (s_H ha), bA_s, show (255 : Int32) = nI 255 from rfl, c_wof ha hc r18 (show 255 < 2 ^ 31 by decide), b2_s, wset_255 r _ r18]
theorem m_wof_L {ra : Nat} (hR : isRa ra) (hM : MH (I ra) r) (r18 : r 1 ≤ 8) {β : Type} (kk : Int32 → Int32 → Hp → Option β) : ∀ (d fuel k : Nat), k + d = r 1 → d < fuel → f_X12_weightOf_L4 kk ra fuel (enc I D K n Z) (nI (wsum r k)) (nI k) = kk (nI (wsum r (r 1))) (nI (r 1)) (enc I D K n Z) := by
  have l1 : ald (enc I D K n Z) ra 0 (1 : Int32) = some (nI (r 1)) := by rw [← hM 1 (by decide)]; exact ald_n (s_Ra hR) 1 (by decide) (by decide)
  intro d
  induction d with
  | zero =>
    intro fuel k hk hf
    obtain ⟨f, rfl⟩ : ∃ f, fuel = f + 1 := ⟨fuel - 1, by omega⟩
    have e : k = r 1 := by omega
    subst e
    rw [f_X12_weightOf_L4]
    simp only [bA_s, l1]
    rw [if_pos (nI_le (Nat.le_refl _) (by omega))]
  | succ d ih =>
    intro fuel k hk hf
    obtain ⟨f, rfl⟩ : ∃ f, fuel = f + 1 := ⟨fuel - 1, by omega⟩
    rw [f_X12_weightOf_L4]
    simp only [bA_s, l1]
    rw [if_neg (nI_ge (by omega) (by omega))]
    simp only [show (6 : Int32) = nI 6 from rfl, nI_add, ald_n (s_Ra hR) (6 + k) (show 6 + k < 54 by omega) (by decide), hM (6 + k) (by omega), bA_s, z_i2]
    exact ih f (k + 1) (by omega) (by omega)
theorem m_wof {ra : Nat} (hR : isRa ra) (hM : MH (I ra) r) (r18 : r 1 ≤ 8) : f_X12_weightOf (enc I D K n Z) ra = some (nI (wsum r (r 1)), enc I D K n Z) := m_wof_L hR hM r18 (fun y7 y8 h6 => some (y7, h6)) (r 1) 2000 0 (by omega) (by omega)
theorem c_wear_L {a : Nat} (ha : isH a) (hc : CH I D K n a r) (r08 : r 0 ≤ 8) {β : Type} (kk : Int32 → Int32 → Hp → Option β) : ∀ (d fuel k : Nat), k + d = r 0 → d < fuel → f_X3_wearOfAll_L4 kk a fuel (enc I D K n Z) (nI (wears r k)) (nI k) = kk (nI (wears r (r 0))) (nI (r 0)) (enc I D K n Z) := by
  intro d
  induction d with
  | zero =>
    intro fuel k hk hf
    obtain ⟨f, rfl⟩ : ∃ f, fuel = f + 1 := ⟨fuel - 1, by omega⟩
    have e : k = r 0 := by omega
    subst e
    rw [f_X3_wearOfAll_L4]
    simp only [gI_e (s_H ha) 4 rfl, bA_s, hc.1.2.1]
    rw [if_pos (nI_le (Nat.le_refl _) (by omega))]
  | succ d ih =>
    intro fuel k hk hf
    obtain ⟨f, rfl⟩ : ∃ f, fuel = f + 1 := ⟨fuel - 1, by omega⟩
    have hkr : k < r 0 := by omega
    rw [f_X3_wearOfAll_L4]
    simp only [gI_e (s_H ha) 4 rfl, bA_s, hc.1.2.1]
    rw [if_neg (nI_ge (by omega) (by omega))]
    simp only [gN_e (s_H ha) 1 rfl, bA_s, ald_n (s_H2 ha) k (show k < 8 by omega) (by decide), hc.2.2.1 k hkr, nI_add, z_i2]
    exact ih f (k + 1) (by omega) (by omega)
theorem m_wear_L (hM : MH (I 166) r) (r08 : r 0 ≤ 8) (x1 : Int32) {β : Type} (kk : Int32 → Int32 → Hp → Option β) : ∀ (d fuel k : Nat), k + d = r 0 → d < fuel → f_X12_count_L124 kk 162 x1 fuel (enc I D K n Z) (nI (wears r k)) (nI k) = kk (nI (wears r (r 0))) (nI (r 0)) (enc I D K n Z) := by
  have l0 : ald (enc I D K n Z) 166 0 (0 : Int32) = some (nI (r 0)) := by rw [← hM 0 (by decide)]; exact ald_n s_166 0 (by decide) (by decide)
  intro d
  induction d with
  | zero =>
    intro fuel k hk hf
    obtain ⟨f, rfl⟩ : ∃ f, fuel = f + 1 := ⟨fuel - 1, by omega⟩
    have e : k = r 0 := by omega
    subst e
    rw [f_X12_count_L124]
    simp only [r162_5, bA_s, l0]
    rw [if_pos (nI_le (Nat.le_refl _) (by omega))]
  | succ d ih =>
    intro fuel k hk hf
    obtain ⟨f, rfl⟩ : ∃ f, fuel = f + 1 := ⟨fuel - 1, by omega⟩
    rw [f_X12_count_L124]
    simp only [r162_5, bA_s, l0]
    rw [if_neg (nI_ge (by omega) (by omega))]
    simp only [m_of4 R166 hM (show k < 8 by omega), b2_s, nI_add, z_i2]
    exact ih f (k + 1) (by omega) (by omega)
theorem c_rows_L (hR : RowsI I) (hD : ∀ k, k < 8 → D 1 k = some (30 + 2 * k)) {β : Type} (kk : Int32 → Int32 → Hp → Option β) : ∀ (d fuel k : Nat), k + d = 8 → d < fuel → f_X11_rowsThere_L4 kk 0 fuel (enc I D K n Z) (nI (rcnt I k)) (nI k) = kk (nI (rcnt I 8)) (nI 8) (enc I D K n Z) := by
  intro d
  induction d with
  | zero =>
    intro fuel k hk hf
    obtain ⟨f, rfl⟩ : ∃ f, fuel = f + 1 := ⟨fuel - 1, by omega⟩
    have e : k = 8 := by omega
    subst e
    rw [f_X11_rowsThere_L4]
    simp only [r0_0, qln_e s_1, bA_s]
    rw [if_pos (nI_le (Nat.le_refl _) (by decide))]
  | succ d ih =>
    intro fuel k hk hf
    obtain ⟨f, rfl⟩ : ∃ f, fuel = f + 1 := ⟨fuel - 1, by omega⟩
    have hk8 : k < 8 := by omega
    rw [f_X11_rowsThere_L4]
    simp only [r0_0, qln_e s_1, bA_s]
    rw [if_neg (nI_ge (by omega) (by decide))]
    simp only [bA_s, aldn_e s_1 k hk8 (by decide), hD k hk8, isC_e (s_R hk8), c_isMissing hk8, b2_s, z_i2]
    have e := ih f (k + 1) (by omega) (by omega)
    rw [rcnt] at e
    rcases row_cases hR k hk8 with ⟨q1, q2, q3⟩ | ⟨l, m, q1, q2, q3, q4, q5, q6, q7, q8, q9⟩
    · rw [if_neg q1] at e
      simp only [if_neg q2, if_neg one0, bA_s]
      exact e
    · rw [q3, if_pos q7] at e
      simp only [q4, if_pos q7, if_true, bA_s]
      exact e
theorem m_rows_L (x1 : Int32) {β : Type} (kk : Int32 → Int32 → Hp → Option β) : ∀ (d fuel k : Nat), k + d = 8 → d < fuel → f_X12_count_L62 kk 162 x1 fuel (enc I D K n Z) (nI (rcnt I k)) (nI k) = kk (nI (rcnt I 8)) (nI 8) (enc I D K n Z) := by
  intro d
  induction d with
  | zero =>
    intro fuel k hk hf
    obtain ⟨f, rfl⟩ : ∃ f, fuel = f + 1 := ⟨fuel - 1, by omega⟩
    have e : k = 8 := by omega
    subst e
    rw [f_X12_count_L62, if_pos (show (8 : Int32) ≤ nI 8 by decide)]
  | succ d ih =>
    intro fuel k hk hf
    obtain ⟨f, rfl⟩ : ∃ f, fuel = f + 1 := ⟨fuel - 1, by omega⟩
    have hk8 : k < 8 := by omega
    rw [f_X12_count_L62, if_neg (show ¬ (8 : Int32) ≤ nI k from nI_ge (b := 8) hk8 (by decide))]
    simp only [r162_2, bA_s, ald_n s_163 k hk8 (by decide), z_i2]
    have e := ih f (k + 1) (by omega) (by omega)
    rw [rcnt] at e
    by_cases c : (0 : Int32) ≤ I 163 k
    · have c' : ¬ I 163 k < 0 := by
        intro q; rw [fa_lt] at q; rw [fa_le] at c; omega
      rw [if_pos c] at e
      rw [if_neg c', bA_s, z_i2]
      exact e
    · rw [if_neg c] at e
      rw [if_pos (fa_of_nle c), bA_s, show (0 : Int32) = nI 0 from rfl, nI_add]
      exact e
set_option maxRecDepth 100000 in
set_option maxHeartbeats 4000000 in
theorem k_room (h : Inv I D K n N) (x w : Int32) : GD Z N (enc I D K n Z) (fun h => f_X11_room h 0 x w) (fun h => f_X12_room h 162 x w) := by
  obtain ⟨r, hc, hM, hw⟩ := h.2.2.1
  obtain ⟨r18, r08⟩ := ho8 hw
  have hM' := thr_M (show 166 ≠ 162 by decide) hM
  have hin : ∀ h : Hp, f_X12_in h w.toInt64 (0 : Int64) (1 : Int64) = some (if (0 : Int) ≤ w.toInt ∧ w.toInt ≤ (1 : Nat) then 1 else 0, h) := fun h => in02 h w 1 (by decide) (by decide)
  by_cases hx : 0 ≤ x.toInt ∧ x.toInt < r 1
  · obtain ⟨m, hm, rfl⟩ := (ix_in (m := r 1) (by omega)).mp hx
    have hwf := rm_wf hw hm
    have el := m_room_L (D := D) (K := K) (n := n) (Z := Z) hM' hwf (m := m) (by omega) w (fun y54 y55 h53 => bA (if w = 0 then bA (gN h53 162 11 5) fun a61 => bA (ald h53 a61 0 ((6 : Int32) + nI m)) fun v62 => some v62 else some y54) fun j57 => some (j57, h53)) (r 0) 2000 0 (by omega) (by omega)
    rw [show nI (dset r m 0) = (0 : Int32) from rfl, show nI 0 = (0 : Int32) from rfl] at el
    by_cases w0 : w = (0 : Int32)
    · have hww : (0 : Int) ≤ w.toInt ∧ w.toInt ≤ (1 : Nat) := by rw [w0, i32z]; decide
      refine ⟨nI (r (6 + m)), enc I D K n Z, _, D, K, n, ?_, ?_, h.thr⟩
      · simp only [f_X11_room, r0_3, bA_s, c9, c_lacksRoom h9 r18 hc.1.1, b2_s, if_pos hx, if_true, if_pos w0, r9_0, ald_n (s_H1 h9) m (show m < 8 by omega) (by decide), show I 10 m = nI (r (6 + m)) from hc.2.1 m hm]
      · simp only [f_X12_room, p_thr, bA_s, c162, m_isRoom hM' r18, b2_s, if_pos hx, if_neg one0, hin, if_pos hww, el]
        simp only [if_pos w0, r162_5, bA_s, show (6 : Int32) = nI 6 from rfl, nI_add, ald_n s_166 (6 + m) (show 6 + m < 54 by omega) (by decide), hM' (6 + m) (by omega)]
    · by_cases w1 : w = (1 : Int32)
      · have hww : (0 : Int) ≤ w.toInt ∧ w.toInt ≤ (1 : Nat) := by rw [w1]; decide
        have ec := c_dof_L (D := D) (K := K) (n := n) (Z := Z) h9 hc hwf (m := m) (by omega) (fun y28 y29 h27 => some (y28, h27)) (r 0) 2000 0 (by omega) (by omega)
        rw [show nI (dset r m 0) = (0 : Int32) from rfl, show nI 0 = (0 : Int32) from rfl] at ec
        refine ⟨nI (dset r m (r 0)), enc I D K n Z, _, D, K, n, ?_, ?_, h.thr⟩
        · simp only [f_X11_room, r0_3, bA_s, c9, c_lacksRoom h9 r18 hc.1.1, b2_s, if_pos hx, if_true, if_neg w0, if_pos w1, f_X3_doorsOf, ec]
        · simp only [f_X12_room, p_thr, bA_s, c162, m_isRoom hM' r18, b2_s, if_pos hx, if_neg one0, hin, if_pos hww, el]
          simp only [if_neg w0, bA_s]
      · have hww : ¬ ((0 : Int) ≤ w.toInt ∧ w.toInt ≤ (1 : Nat)) := by
          intro q
          have a0 : w.toInt ≠ 0 := fun e => w0 ((fa_eq w 0).mpr (by rw [i32z]; exact e))
          have a1 : w.toInt ≠ 1 := fun e => w1 ((fa_eq w 1).mpr (by rw [show (1 : Int32).toInt = 1 by decide]; exact e))
          omega
        refine ⟨-1000001, enc I D K n Z, _, D, K, n, ?_, ?_, h.thr⟩
        · simp only [f_X11_room, r0_3, bA_s, c9, c_lacksRoom h9 r18 hc.1.1, b2_s, if_pos hx, if_true, if_neg w0, if_neg w1]
        · simp only [f_X12_room, p_thr, bA_s, c162, m_isRoom hM' r18, b2_s, if_pos hx, if_neg one0, hin, if_neg hww, if_true]
  · refine ⟨-1000001, enc I D K n Z, _, D, K, n, ?_, ?_, h.thr⟩
    · simp only [f_X11_room, r0_3, bA_s, c9, c_lacksRoom h9 r18 hc.1.1, b2_s, if_neg hx, if_neg one0]
    · simp only [f_X12_room, p_thr, bA_s, c162, m_isRoom hM' r18, b2_s, if_neg hx, if_true]
set_option maxRecDepth 100000 in
set_option maxHeartbeats 4000000 in
theorem k_count (h : Inv I D K n N) (w : Int32) : GD Z N (enc I D K n Z) (fun h => f_X11_count h 0 w) (fun h => f_X12_count h 162 w) := by
  obtain ⟨r, hc, hM, hw⟩ := h.2.2.1
  obtain ⟨r18, r08⟩ := ho8 hw
  have hM' := thr_M (show 166 ≠ 162 by decide) hM
  obtain ⟨tl, tl1, tl2, tl3, tl4⟩ := h.2.1.2.2.2.1
  obtain ⟨tt, tt1, tt2, tt3, tt4⟩ := h.2.1.1
  obtain ⟨o, c, a1, a2, a3, a4, a5, a6⟩ := h.2.2.2.1
  have rr : ∀ k, rcnt (thr I) k = rcnt I k := by
    intro k
    induction k with
    | zero => rfl
    | succ k ih => rw [rcnt, rcnt, ih, thr_n (by decide)]
  have e0 := c_rows_L (K := K) (n := n) (Z := Z) h.1 h.2.2.2.2.2.1.1 (fun y24 y25 h23 => some (y24, h23)) 8 2000 0 (by omega) (by omega)
  rw [show nI (rcnt I 0) = (0 : Int32) from rfl, show nI 0 = (0 : Int32) from rfl] at e0
  have m0 := m_rows_L (I := thr I) (D := D) (K := K) (n := n) (Z := Z) w (fun y15 y16 h14 => some (y15, h14)) 8 2000 0 (by omega) (by omega)
  rw [rr, rr, show nI (rcnt I 0) = (0 : Int32) from rfl, show nI 0 = (0 : Int32) from rfl] at m0
  have e5 := c_wear_L (D := D) (K := K) (n := n) (Z := Z) h9 hc r08 (fun y9 y10 h8 => some (y9, h8)) (r 0) 2000 0 (by omega) (by omega)
  rw [show nI (wears r 0) = (0 : Int32) from rfl, show nI 0 = (0 : Int32) from rfl] at e5
  have m5 := m_wear_L (D := D) (K := K) (n := n) (Z := Z) hM' r08 w (fun y60 y61 h59 => some (y60, h59)) (r 0) 2000 0 (by omega) (by omega)
  rw [show nI (wears r 0) = (0 : Int32) from rfl, show nI 0 = (0 : Int32) from rfl] at m5
  have l0 : ald (enc (thr I) D K n Z) 166 0 (0 : Int32) = some (nI (r 0)) := by rw [← hM' 0 (by decide)]; exact ald_n s_166 0 (by decide) (by decide)
  have l1 : ald (enc (thr I) D K n Z) 166 0 (1 : Int32) = some (nI (r 1)) := by rw [← hM' 1 (by decide)]; exact ald_n s_166 1 (by decide) (by decide)
  have l5 : ald (enc (thr I) D K n Z) 166 0 (5 : Int32) = some (nI (r 5)) := by rw [← hM' 5 (by decide)]; exact ald_n s_166 5 (by decide) (by decide)
  have go : ∀ v, f_X11_count (enc I D K n Z) 0 w = some (v, enc I D K n Z) → f_X12_count (enc I D K n Z) 162 w = some (v, enc (thr I) D K n Z) → GD Z N (enc I D K n Z) (fun h => f_X11_count h 0 w) (fun h => f_X12_count h 162 w) := fun v a b => ⟨v, enc I D K n Z, _, D, K, n, a, b, h.thr⟩
  have ecl : f_X11_count (enc I D K n Z) 0 w = (if w = (0 : Int32) then some (nI (rcnt I 8), enc I D K n Z) else if w = (1 : Int32) then some (nI (r 0), enc I D K n Z) else if w = (2 : Int32) then some (nI (r 1), enc I D K n Z) else if w = (3 : Int32) then some (nI (wsum r (r 1)), enc I D K n Z) else if w = (4 : Int32) then some (nI (r 5), enc I D K n Z) else if w = (5 : Int32) then some (nI (wears r (r 0)), enc I D K n Z) else if w = (6 : Int32) then some (nI tl, enc I D K n Z) else if w = (7 : Int32) then some (nI c, enc I D K n Z) else if w = (8 : Int32) then some (nI tt, enc I D K n Z) else some (-1000001, enc I D K n Z)) := by
    simp only [f_X11_count, c0, bA_s, f_X11_rowsThere, e0, b2_s, r0_3, r0_4, r0_1, g9_4, g9_3, g9_8, hc.1.1, hc.1.2.1, hc.1.2.2.2.2.2, c9, c_woa h9 hc r18, f_X3_wearOfAll, e5, g13_1, tl2, g0_13, a4, g2_2, tt2]
  have emo : f_X12_count (enc I D K n Z) 162 w = (if w = (0 : Int32) then some (nI (rcnt I 8), enc (thr I) D K n Z) else if w = (1 : Int32) then some (nI (r 0), enc (thr I) D K n Z) else if w = (2 : Int32) then some (nI (r 1), enc (thr I) D K n Z) else if w = (3 : Int32) then some (nI (wsum r (r 1)), enc (thr I) D K n Z) else if w = (4 : Int32) then some (nI (r 5), enc (thr I) D K n Z) else if w = (5 : Int32) then some (nI (wears r (r 0)), enc (thr I) D K n Z) else if w = (6 : Int32) then some (nI tl, enc (thr I) D K n Z) else if w = (7 : Int32) then some (nI c, enc (thr I) D K n Z) else if w = (8 : Int32) then some (nI tt, enc (thr I) D K n Z) else some (-1000001, enc (thr I) D K n Z)) := by
    simp only [f_X12_count, p_thr, bA_s, m0, r162_5, l0, l1, l5, m_wof R166 hM' r18, b2_s, m5, g162_27, g162_9, g162_11, thr_s (show 27 ≠ 0 by decide), thr_s (show 9 ≠ 0 by decide), thr_s (show 11 ≠ 0 by decide), tl3, a5, tt3]
  by_cases w0 : w = (0 : Int32)
  · exact go _ (by rw [ecl, if_pos w0]) (by rw [emo, if_pos w0])
  · rw [if_neg w0] at ecl emo
    by_cases w1 : w = (1 : Int32)
    · exact go _ (by rw [ecl, if_pos w1]) (by rw [emo, if_pos w1])
    · rw [if_neg w1] at ecl emo
      by_cases w2 : w = (2 : Int32)
      · exact go _ (by rw [ecl, if_pos w2]) (by rw [emo, if_pos w2])
      · rw [if_neg w2] at ecl emo
        by_cases w3 : w = (3 : Int32)
        · exact go _ (by rw [ecl, if_pos w3]) (by rw [emo, if_pos w3])
        · rw [if_neg w3] at ecl emo
          by_cases w4 : w = (4 : Int32)
          · exact go _ (by rw [ecl, if_pos w4]) (by rw [emo, if_pos w4])
          · rw [if_neg w4] at ecl emo
            by_cases w5 : w = (5 : Int32)
            · exact go _ (by rw [ecl, if_pos w5]) (by rw [emo, if_pos w5])
            · rw [if_neg w5] at ecl emo
              by_cases w6 : w = (6 : Int32)
              · exact go _ (by rw [ecl, if_pos w6]) (by rw [emo, if_pos w6])
              · rw [if_neg w6] at ecl emo
                by_cases w7 : w = (7 : Int32)
                · exact go _ (by rw [ecl, if_pos w7]) (by rw [emo, if_pos w7])
                · rw [if_neg w7] at ecl emo
                  by_cases w8 : w = (8 : Int32)
                  · exact go _ (by rw [ecl, if_pos w8]) (by rw [emo, if_pos w8])
                  · rw [if_neg w8] at ecl emo
                    exact go _ ecl emo
end Counts
