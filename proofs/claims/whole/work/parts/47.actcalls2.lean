/-! CALLS THAT ARE ACTS: rule, undo; image, restore -/
section ActCalls2
variable {I : Nat → Nat → Int32} {D : Nat → Nat → Option Nat} {K : Nat → Nat} {n N : Nat} {Z : Nat → Cl} {r r' : Ro}
theorem inab (h : Hp) (x : Int32) (a b : Nat) (ha : a < 2 ^ 31) (hb : b < 2 ^ 31) (ha2 : (nI a).toInt64 = (OfNat.ofNat a : Int64)) (hb2 : (nI b).toInt64 = (OfNat.ofNat b : Int64)) : f_X12_in h x.toInt64 (OfNat.ofNat a : Int64) (OfNat.ofNat b : Int64) = some (if (a : Int) ≤ x.toInt ∧ x.toInt ≤ b then 1 else 0, h) := by
  have := m_inL h x a b ha hb
  rw [ha2, hb2] at this
  exact this
theorem isRule0 (h : Hp) (y : Int32) : f_X11_isRule h (0 : Int32) y = some (if ((0 : Nat) : Int) ≤ y.toInt ∧ y.toInt ≤ (63 : Nat) then 1 else 0, h) := by
  unfold f_X11_isRule
  simp only [if_pos (show (0 : Int32) = (0 : Int32) from rfl), if_neg (show ¬ (0 : Int32) = (1 : Int32) by decide), if_neg (show ¬ (0 : Int32) = (2 : Int32) by decide), if_true]
  by_cases y1 : y < (0 : Int32)
  · have y1' := (fa_lt y _).mp y1
    rw [show (0 : Int32).toInt = 0 by decide] at y1'
    simp only [if_pos y1, bA_s, bz0, if_neg (show ¬ (((0 : Nat) : Int) ≤ y.toInt ∧ y.toInt ≤ (63 : Nat)) by omega)]
  · have y1' := fa_of_nlt y1
    rw [fa_le, show (0 : Int32).toInt = 0 by decide] at y1'
    by_cases y2 : (63 : Int32) < y
    · have y2' := (fa_lt _ y).mp y2
      rw [show (63 : Int32).toInt = 63 by decide] at y2'
      simp only [if_neg y1, if_pos y2, bA_s, bz0, if_neg (show ¬ (((0 : Nat) : Int) ≤ y.toInt ∧ y.toInt ≤ (63 : Nat)) by omega)]
    · have y2' := fa_of_nlt y2
      rw [fa_le, show (63 : Int32).toInt = 63 by decide] at y2'
      simp only [if_neg y1, if_neg y2, bA_s, bz1, if_pos (show (((0 : Nat) : Int) ≤ y.toInt ∧ y.toInt ≤ (63 : Nat)) by omega)]
set_option maxRecDepth 100000 in
set_option maxHeartbeats 4000000 in
theorem k_rule0 (h : Inv I D K n N) (y : Int32) : GD Z N (enc I D K n Z) (fun h => f_X11_rule h 0 (0 : Int32) y) (fun h => f_X12_rule h 162 (0 : Int32) y) := by
  obtain ⟨r, hc, hM, hw⟩ := h.2.2.1
  obtain ⟨r18, r08⟩ := ho8 hw
  have hM' := thr_M (show 166 ≠ 162 by decide) hM
  have hin : ∀ h : Hp, f_X12_in h y.toInt64 (0 : Int64) (63 : Int64) = some (if ((0 : Nat) : Int) ≤ y.toInt ∧ y.toInt ≤ (63 : Nat) then 1 else 0, h) := fun h => inab h y 0 63 (by decide) (by decide) (by decide) (by decide)
  by_cases hz : r 1 = 0
  · refine ⟨-1000002, enc I D K n Z, _, D, K, n, ?_, ?_, h.thr⟩
    · simp only [f_X11_rule, r0_3, bA_s, c9, c_stands9 h9 hc.1.1 r18, b2_s, if_pos hz, if_true]
    · simp only [f_X12_rule, p_thr, bA_s, c162, m_isThere hM' r18, b2_s, if_pos hz, if_true]
  · have hwf := st_wf hw hz
    by_cases hy : ((0 : Nat) : Int) ≤ y.toInt ∧ y.toInt ≤ (63 : Nat)
    · obtain ⟨v, hv, rfl⟩ := (ix_in (x := y) (m := 64) (by decide)).mp ⟨by omega, by omega⟩
      have hvv : ((0 : Nat) : Int) ≤ (v : Int) ∧ (v : Int) ≤ (63 : Nat) := by rw [toInt_nI (by omega)] at hy; exact hy
      obtain ⟨o, c, a1, a2, a3, a4, a5, a6⟩ := h.2.2.2.1
      have hm24 : (o + c) % 24 < 24 := Nat.mod_lt _ (by decide)
      obtain ⟨I1, D1, k0, k1, k2, k3, k4, k5, k6, k7⟩ := c_keep (Z := Z) h.2.2.2.2.2.2 h.2.2.2.2.2.1 a1 a2 a3 a4
      have hc1 := keep9 (by omega) hc hwf k2 (by omega) k3
      generalize hI2 : va_up I1 9 (upd (I1 9) 7 (nI v)) = I2
      have f2 : ∀ x, x ≠ 9 → I2 x = I1 x := fun x hx => by rw [← hI2, va_up_ne _ _ hx]
      have hc2 : CH I2 D1 K n 9 (uN r 4 v) := by rw [← hI2]; exact hc1.slot h9 r18 (by omega) v
      have t2 : ∀ x, x ≠ 162 → x ≠ 9 → x ≠ 0 → (x < 46 + 4 * ((o + c) % 24) ∨ 46 + 4 * ((o + c) % 24) + 2 < x) → thr I2 x = I x := fun x a b d e => by rw [thr_n a, f2 x b, k2 x e d]
      have hM2 : MH (thr I2 166) r := by rw [t2 166 (by decide) (by decide) (by decide) (by omega)]; exact hM
      have h9c : thr I2 162 9 = nI c := by rw [thr_s (by decide), f2 162 (by decide), k2 162 (by omega) (by decide)]; exact a5
      obtain ⟨J, b0, b1, b2', b3, b4, b5⟩ := m_keep (D := D1) (K := K) (n := n) (Z := Z) a2 h9c
      have hMJ : MH (J 166) r := by rw [b1 166 (by decide) (by decide)]; exact hM2
      have hwf2 : wf (uN r 4 v) N := hwf.low (by omega)
      have ld : ald (enc J D1 K n Z) 166 0 (4 : Int32) = some (nI (r 4)) := by rw [← hMJ 4 (by decide)]; exact ald_n s_166 4 (by decide) (by decide)
      have st : ast (enc J D1 K n Z) 166 0 (4 : Int32) (nI v) = some (enc (va_up J 166 (upd (J 166) 4 (nI v))) D1 K n Z) := ast_n s_166 4 _ (by decide) (by decide)
      have g9 : I1 9 7 = nI (r 4) := hc1.1.2.2.2.2.1
      refine ⟨nI (r 4), enc I2 D1 K n Z, va_up J 166 (upd (J 166) 4 (nI v)), D1, K, n, ?_, ?_, ?_⟩
      · simp only [f_X11_rule, r0_3, bA_s, c9, c_stands9 h9 hc.1.1 r18, b2_s, if_neg hz, if_neg one0, isRule0, if_pos hy, c0, k0, if_pos (show (0 : Int32) = (0 : Int32) from rfl), if_neg (show ¬ (0 : Int32) = (1 : Int32) by decide), if_neg (show ¬ (0 : Int32) = (2 : Int32) by decide), if_true, g9_7, g9, p9_7, hI2]
      · simp only [f_X12_rule, p_thr, bA_s, c162, m_isThere hM2 r18, b2_s, if_neg hz, if_neg one0, if_pos (show (0 : Int32) = (0 : Int32) from rfl), if_neg (show ¬ (0 : Int32) = (1 : Int32) by decide), if_neg (show ¬ (0 : Int32) = (2 : Int32) by decide), if_true, hin, if_pos hy, b0, r162_5, ld, st]
      · exact act_inv h hc hM hwf a1 a2 a6 k1 k2 k3 k4 k5 k6 k7 (fun x a b d => f2 x a) hc2 b1 b2' b3 b4 b5 (fun x hx => va_up_ne _ _ hx) (by rw [va_up_self]; exact hMJ.upd _ _) (hwf2.mono (by omega))
    · refine ⟨-1000001, enc I D K n Z, _, D, K, n, ?_, ?_, h.thr⟩
      · simp only [f_X11_rule, r0_3, bA_s, c9, c_stands9 h9 hc.1.1 r18, b2_s, if_neg hz, if_neg one0, isRule0, if_neg hy, if_true]
      · simp only [f_X12_rule, p_thr, bA_s, c162, m_isThere hM' r18, b2_s, if_neg hz, if_neg one0, if_pos (show (0 : Int32) = (0 : Int32) from rfl), if_neg (show ¬ (0 : Int32) = (1 : Int32) by decide), if_neg (show ¬ (0 : Int32) = (2 : Int32) by decide), if_true, hin, if_neg hy]
theorem isRule1 (h : Hp) (y : Int32) : f_X11_isRule h (1 : Int32) y = some (if ((1 : Nat) : Int) ≤ y.toInt ∧ y.toInt ≤ (9 : Nat) then 1 else 0, h) := by
  unfold f_X11_isRule
  simp only [if_neg (show ¬ (1 : Int32) = (0 : Int32) by decide), if_pos (show (1 : Int32) = (1 : Int32) from rfl), if_neg (show ¬ (1 : Int32) = (2 : Int32) by decide), if_true]
  by_cases y1 : y < (1 : Int32)
  · have y1' := (fa_lt y _).mp y1
    rw [show (1 : Int32).toInt = 1 by decide] at y1'
    simp only [if_pos y1, bA_s, bz0, if_neg (show ¬ (((1 : Nat) : Int) ≤ y.toInt ∧ y.toInt ≤ (9 : Nat)) by omega)]
  · have y1' := fa_of_nlt y1
    rw [fa_le, show (1 : Int32).toInt = 1 by decide] at y1'
    by_cases y2 : (9 : Int32) < y
    · have y2' := (fa_lt _ y).mp y2
      rw [show (9 : Int32).toInt = 9 by decide] at y2'
      simp only [if_neg y1, if_pos y2, bA_s, bz0, if_neg (show ¬ (((1 : Nat) : Int) ≤ y.toInt ∧ y.toInt ≤ (9 : Nat)) by omega)]
    · have y2' := fa_of_nlt y2
      rw [fa_le, show (9 : Int32).toInt = 9 by decide] at y2'
      simp only [if_neg y1, if_neg y2, bA_s, bz1, if_pos (show (((1 : Nat) : Int) ≤ y.toInt ∧ y.toInt ≤ (9 : Nat)) by omega)]
set_option maxRecDepth 100000 in
set_option maxHeartbeats 4000000 in
theorem k_rule1 (h : Inv I D K n N) (y : Int32) : GD Z N (enc I D K n Z) (fun h => f_X11_rule h 0 (1 : Int32) y) (fun h => f_X12_rule h 162 (1 : Int32) y) := by
  obtain ⟨r, hc, hM, hw⟩ := h.2.2.1
  obtain ⟨r18, r08⟩ := ho8 hw
  have hM' := thr_M (show 166 ≠ 162 by decide) hM
  have hin : ∀ h : Hp, f_X12_in h y.toInt64 (1 : Int64) (9 : Int64) = some (if ((1 : Nat) : Int) ≤ y.toInt ∧ y.toInt ≤ (9 : Nat) then 1 else 0, h) := fun h => inab h y 1 9 (by decide) (by decide) (by decide) (by decide)
  by_cases hz : r 1 = 0
  · refine ⟨-1000002, enc I D K n Z, _, D, K, n, ?_, ?_, h.thr⟩
    · simp only [f_X11_rule, r0_3, bA_s, c9, c_stands9 h9 hc.1.1 r18, b2_s, if_pos hz, if_true]
    · simp only [f_X12_rule, p_thr, bA_s, c162, m_isThere hM' r18, b2_s, if_pos hz, if_true]
  · have hwf := st_wf hw hz
    by_cases hy : ((1 : Nat) : Int) ≤ y.toInt ∧ y.toInt ≤ (9 : Nat)
    · obtain ⟨v, hv, rfl⟩ := (ix_in (x := y) (m := 10) (by decide)).mp ⟨by omega, by omega⟩
      have hvv : ((1 : Nat) : Int) ≤ (v : Int) ∧ (v : Int) ≤ (9 : Nat) := by rw [toInt_nI (by omega)] at hy; exact hy
      obtain ⟨o, c, a1, a2, a3, a4, a5, a6⟩ := h.2.2.2.1
      have hm24 : (o + c) % 24 < 24 := Nat.mod_lt _ (by decide)
      obtain ⟨I1, D1, k0, k1, k2, k3, k4, k5, k6, k7⟩ := c_keep (Z := Z) h.2.2.2.2.2.2 h.2.2.2.2.2.1 a1 a2 a3 a4
      have hc1 := keep9 (by omega) hc hwf k2 (by omega) k3
      generalize hI2 : va_up I1 9 (upd (I1 9) 5 (nI v)) = I2
      have f2 : ∀ x, x ≠ 9 → I2 x = I1 x := fun x hx => by rw [← hI2, va_up_ne _ _ hx]
      have hc2 : CH I2 D1 K n 9 (uN r 2 v) := by rw [← hI2]; exact hc1.slot h9 r18 (by omega) v
      have t2 : ∀ x, x ≠ 162 → x ≠ 9 → x ≠ 0 → (x < 46 + 4 * ((o + c) % 24) ∨ 46 + 4 * ((o + c) % 24) + 2 < x) → thr I2 x = I x := fun x a b d e => by rw [thr_n a, f2 x b, k2 x e d]
      have hM2 : MH (thr I2 166) r := by rw [t2 166 (by decide) (by decide) (by decide) (by omega)]; exact hM
      have h9c : thr I2 162 9 = nI c := by rw [thr_s (by decide), f2 162 (by decide), k2 162 (by omega) (by decide)]; exact a5
      obtain ⟨J, b0, b1, b2', b3, b4, b5⟩ := m_keep (D := D1) (K := K) (n := n) (Z := Z) a2 h9c
      have hMJ : MH (J 166) r := by rw [b1 166 (by decide) (by decide)]; exact hM2
      have hwf2 : wf (uN r 2 v) N := hwf.low (by omega)
      have ld : ald (enc J D1 K n Z) 166 0 (2 : Int32) = some (nI (r 2)) := by rw [← hMJ 2 (by decide)]; exact ald_n s_166 2 (by decide) (by decide)
      have st : ast (enc J D1 K n Z) 166 0 (2 : Int32) (nI v) = some (enc (va_up J 166 (upd (J 166) 2 (nI v))) D1 K n Z) := ast_n s_166 2 _ (by decide) (by decide)
      have g9 : I1 9 5 = nI (r 2) := hc1.1.2.2.1
      refine ⟨nI (r 2), enc I2 D1 K n Z, va_up J 166 (upd (J 166) 2 (nI v)), D1, K, n, ?_, ?_, ?_⟩
      · simp only [f_X11_rule, r0_3, bA_s, c9, c_stands9 h9 hc.1.1 r18, b2_s, if_neg hz, if_neg one0, isRule1, if_pos hy, c0, k0, if_neg (show ¬ (1 : Int32) = (0 : Int32) by decide), if_pos (show (1 : Int32) = (1 : Int32) from rfl), if_neg (show ¬ (1 : Int32) = (2 : Int32) by decide), if_true, g9_5, g9, p9_5, hI2]
      · simp only [f_X12_rule, p_thr, bA_s, c162, m_isThere hM2 r18, b2_s, if_neg hz, if_neg one0, if_neg (show ¬ (1 : Int32) = (0 : Int32) by decide), if_pos (show (1 : Int32) = (1 : Int32) from rfl), if_neg (show ¬ (1 : Int32) = (2 : Int32) by decide), if_true, hin, if_pos hy, b0, r162_5, ld, st]
      · exact act_inv h hc hM hwf a1 a2 a6 k1 k2 k3 k4 k5 k6 k7 (fun x a b d => f2 x a) hc2 b1 b2' b3 b4 b5 (fun x hx => va_up_ne _ _ hx) (by rw [va_up_self]; exact hMJ.upd _ _) (hwf2.mono (by omega))
    · refine ⟨-1000001, enc I D K n Z, _, D, K, n, ?_, ?_, h.thr⟩
      · simp only [f_X11_rule, r0_3, bA_s, c9, c_stands9 h9 hc.1.1 r18, b2_s, if_neg hz, if_neg one0, isRule1, if_neg hy, if_true]
      · simp only [f_X12_rule, p_thr, bA_s, c162, m_isThere hM' r18, b2_s, if_neg hz, if_neg one0, if_neg (show ¬ (1 : Int32) = (0 : Int32) by decide), if_pos (show (1 : Int32) = (1 : Int32) from rfl), if_neg (show ¬ (1 : Int32) = (2 : Int32) by decide), if_true, hin, if_neg hy]
theorem isRule2 (h : Hp) (y : Int32) : f_X11_isRule h (2 : Int32) y = some (if ((1 : Nat) : Int) ≤ y.toInt ∧ y.toInt ≤ (60 : Nat) then 1 else 0, h) := by
  unfold f_X11_isRule
  simp only [if_neg (show ¬ (2 : Int32) = (0 : Int32) by decide), if_neg (show ¬ (2 : Int32) = (1 : Int32) by decide), if_pos (show (2 : Int32) = (2 : Int32) from rfl), if_true]
  by_cases y1 : y < (1 : Int32)
  · have y1' := (fa_lt y _).mp y1
    rw [show (1 : Int32).toInt = 1 by decide] at y1'
    simp only [if_pos y1, bA_s, bz0, if_neg (show ¬ (((1 : Nat) : Int) ≤ y.toInt ∧ y.toInt ≤ (60 : Nat)) by omega)]
  · have y1' := fa_of_nlt y1
    rw [fa_le, show (1 : Int32).toInt = 1 by decide] at y1'
    by_cases y2 : (60 : Int32) < y
    · have y2' := (fa_lt _ y).mp y2
      rw [show (60 : Int32).toInt = 60 by decide] at y2'
      simp only [if_neg y1, if_pos y2, bA_s, bz0, if_neg (show ¬ (((1 : Nat) : Int) ≤ y.toInt ∧ y.toInt ≤ (60 : Nat)) by omega)]
    · have y2' := fa_of_nlt y2
      rw [fa_le, show (60 : Int32).toInt = 60 by decide] at y2'
      simp only [if_neg y1, if_neg y2, bA_s, bz1, if_pos (show (((1 : Nat) : Int) ≤ y.toInt ∧ y.toInt ≤ (60 : Nat)) by omega)]
set_option maxRecDepth 100000 in
set_option maxHeartbeats 4000000 in
theorem k_rule2 (h : Inv I D K n N) (y : Int32) : GD Z N (enc I D K n Z) (fun h => f_X11_rule h 0 (2 : Int32) y) (fun h => f_X12_rule h 162 (2 : Int32) y) := by
  obtain ⟨r, hc, hM, hw⟩ := h.2.2.1
  obtain ⟨r18, r08⟩ := ho8 hw
  have hM' := thr_M (show 166 ≠ 162 by decide) hM
  have hin : ∀ h : Hp, f_X12_in h y.toInt64 (1 : Int64) (60 : Int64) = some (if ((1 : Nat) : Int) ≤ y.toInt ∧ y.toInt ≤ (60 : Nat) then 1 else 0, h) := fun h => inab h y 1 60 (by decide) (by decide) (by decide) (by decide)
  by_cases hz : r 1 = 0
  · refine ⟨-1000002, enc I D K n Z, _, D, K, n, ?_, ?_, h.thr⟩
    · simp only [f_X11_rule, r0_3, bA_s, c9, c_stands9 h9 hc.1.1 r18, b2_s, if_pos hz, if_true]
    · simp only [f_X12_rule, p_thr, bA_s, c162, m_isThere hM' r18, b2_s, if_pos hz, if_true]
  · have hwf := st_wf hw hz
    by_cases hy : ((1 : Nat) : Int) ≤ y.toInt ∧ y.toInt ≤ (60 : Nat)
    · obtain ⟨v, hv, rfl⟩ := (ix_in (x := y) (m := 61) (by decide)).mp ⟨by omega, by omega⟩
      have hvv : ((1 : Nat) : Int) ≤ (v : Int) ∧ (v : Int) ≤ (60 : Nat) := by rw [toInt_nI (by omega)] at hy; exact hy
      obtain ⟨o, c, a1, a2, a3, a4, a5, a6⟩ := h.2.2.2.1
      have hm24 : (o + c) % 24 < 24 := Nat.mod_lt _ (by decide)
      obtain ⟨I1, D1, k0, k1, k2, k3, k4, k5, k6, k7⟩ := c_keep (Z := Z) h.2.2.2.2.2.2 h.2.2.2.2.2.1 a1 a2 a3 a4
      have hc1 := keep9 (by omega) hc hwf k2 (by omega) k3
      generalize hI2 : va_up I1 9 (upd (I1 9) 6 (nI v)) = I2
      have f2 : ∀ x, x ≠ 9 → I2 x = I1 x := fun x hx => by rw [← hI2, va_up_ne _ _ hx]
      have hc2 : CH I2 D1 K n 9 (uN r 3 v) := by rw [← hI2]; exact hc1.slot h9 r18 (by omega) v
      have t2 : ∀ x, x ≠ 162 → x ≠ 9 → x ≠ 0 → (x < 46 + 4 * ((o + c) % 24) ∨ 46 + 4 * ((o + c) % 24) + 2 < x) → thr I2 x = I x := fun x a b d e => by rw [thr_n a, f2 x b, k2 x e d]
      have hM2 : MH (thr I2 166) r := by rw [t2 166 (by decide) (by decide) (by decide) (by omega)]; exact hM
      have h9c : thr I2 162 9 = nI c := by rw [thr_s (by decide), f2 162 (by decide), k2 162 (by omega) (by decide)]; exact a5
      obtain ⟨J, b0, b1, b2', b3, b4, b5⟩ := m_keep (D := D1) (K := K) (n := n) (Z := Z) a2 h9c
      have hMJ : MH (J 166) r := by rw [b1 166 (by decide) (by decide)]; exact hM2
      have hwf2 : wf (uN r 3 v) N := hwf.low (by omega)
      have ld : ald (enc J D1 K n Z) 166 0 (3 : Int32) = some (nI (r 3)) := by rw [← hMJ 3 (by decide)]; exact ald_n s_166 3 (by decide) (by decide)
      have st : ast (enc J D1 K n Z) 166 0 (3 : Int32) (nI v) = some (enc (va_up J 166 (upd (J 166) 3 (nI v))) D1 K n Z) := ast_n s_166 3 _ (by decide) (by decide)
      have g9 : I1 9 6 = nI (r 3) := hc1.1.2.2.2.1
      refine ⟨nI (r 3), enc I2 D1 K n Z, va_up J 166 (upd (J 166) 3 (nI v)), D1, K, n, ?_, ?_, ?_⟩
      · simp only [f_X11_rule, r0_3, bA_s, c9, c_stands9 h9 hc.1.1 r18, b2_s, if_neg hz, if_neg one0, isRule2, if_pos hy, c0, k0, if_neg (show ¬ (2 : Int32) = (0 : Int32) by decide), if_neg (show ¬ (2 : Int32) = (1 : Int32) by decide), if_pos (show (2 : Int32) = (2 : Int32) from rfl), if_true, g9_6, g9, p9_6, hI2]
      · simp only [f_X12_rule, p_thr, bA_s, c162, m_isThere hM2 r18, b2_s, if_neg hz, if_neg one0, if_neg (show ¬ (2 : Int32) = (0 : Int32) by decide), if_neg (show ¬ (2 : Int32) = (1 : Int32) by decide), if_pos (show (2 : Int32) = (2 : Int32) from rfl), if_true, hin, if_pos hy, b0, r162_5, ld, st]
      · exact act_inv h hc hM hwf a1 a2 a6 k1 k2 k3 k4 k5 k6 k7 (fun x a b d => f2 x a) hc2 b1 b2' b3 b4 b5 (fun x hx => va_up_ne _ _ hx) (by rw [va_up_self]; exact hMJ.upd _ _) (hwf2.mono (by omega))
    · refine ⟨-1000001, enc I D K n Z, _, D, K, n, ?_, ?_, h.thr⟩
      · simp only [f_X11_rule, r0_3, bA_s, c9, c_stands9 h9 hc.1.1 r18, b2_s, if_neg hz, if_neg one0, isRule2, if_neg hy, if_true]
      · simp only [f_X12_rule, p_thr, bA_s, c162, m_isThere hM' r18, b2_s, if_neg hz, if_neg one0, if_neg (show ¬ (2 : Int32) = (0 : Int32) by decide), if_neg (show ¬ (2 : Int32) = (1 : Int32) by decide), if_pos (show (2 : Int32) = (2 : Int32) from rfl), if_true, hin, if_neg hy]
theorem k_rule (h : Inv I D K n N) (x y : Int32) : GD Z N (enc I D K n Z) (fun h => f_X11_rule h 0 x y) (fun h => f_X12_rule h 162 x y) := by
  by_cases x0 : x = 0
  · subst x0; exact k_rule0 h y
  · by_cases x1 : x = 1
    · subst x1; exact k_rule1 h y
    · by_cases x2 : x = 2
      · subst x2; exact k_rule2 h y
      · obtain ⟨r, hc, hM, hw⟩ := h.2.2.1
        obtain ⟨r18, r08⟩ := ho8 hw
        have hM' := thr_M (show 166 ≠ 162 by decide) hM
        by_cases hz : r 1 = 0
        · refine ⟨-1000002, enc I D K n Z, _, D, K, n, ?_, ?_, h.thr⟩
          · simp only [f_X11_rule, r0_3, bA_s, c9, c_stands9 h9 hc.1.1 r18, b2_s, if_pos hz, if_true]
          · simp only [f_X12_rule, p_thr, bA_s, c162, m_isThere hM' r18, b2_s, if_pos hz, if_true]
        · refine ⟨-1000001, enc I D K n Z, _, D, K, n, ?_, ?_, h.thr⟩
          · simp only [f_X11_rule, r0_3, bA_s, c9, c_stands9 h9 hc.1.1 r18, b2_s, if_neg hz, if_neg one0, f_X11_isRule, if_neg x0, if_neg x1, if_neg x2, if_true]
          · simp only [f_X12_rule, p_thr, bA_s, c162, m_isThere hM' r18, b2_s, if_neg hz, if_neg one0, if_neg x0, if_neg x1, if_neg x2, if_true]
theorem m_undo_L {c : Nat} (hc : c < 24) {β : Type} (kk : Int32 → Hp → Option β) : ∀ (m fuel j : Nat) (I : Nat → Nat → Int32), j + m = 54 → m < fuel → I 162 9 = nI c → ∃ I', f_X12_undo_L27 kk 162 fuel (enc I D K n Z) (nI j) = kk (nI 54) (enc I' D K n Z) ∧ (∀ x, x ≠ 166 → I' x = I x) ∧ (∀ i, i < j → I' 166 i = I 166 i) ∧ (∀ i, j ≤ i → i < 54 → I' 166 i = I 169 (54 * c + i)) := by
  intro m
  induction m with
  | zero =>
    intro fuel j I hj hf h9
    obtain ⟨f, rfl⟩ : ∃ f, fuel = f + 1 := ⟨fuel - 1, by omega⟩
    have e : j = 54 := by omega
    subst e
    exact ⟨I, by rw [f_X12_undo_L27, if_pos (show (54 : Int32) ≤ nI 54 by decide)], fun _ _ => rfl, fun _ _ => rfl, fun i h1 h2 => by omega⟩
  | succ m ih =>
    intro fuel j I hj hf h9
    obtain ⟨f, rfl⟩ : ∃ f, fuel = f + 1 := ⟨fuel - 1, by omega⟩
    have e8 : ¬ (54 : Int32) ≤ nI j := nI_ge (b := 54) (by omega) (by decide)
    rw [f_X12_undo_L27, if_neg e8]
    simp only [r162_5, r162_8, g162_9, h9, bA_s, show (54 : Int32) = nI 54 from rfl, pk_mul, nI_add, ald_n s_169 (54 * c + j) (show 54 * c + j < 1296 by omega) (by decide), ast_n s_166 j _ (show j < 54 by omega) (by decide), z_i2]
    obtain ⟨I', g1, g2, g3, g4⟩ := ih f (j + 1) (va_up I 166 (upd (I 166) j (I 169 (54 * c + j)))) (by omega) (by omega) (by rw [va_up_ne _ _ (by decide)]; exact h9)
    refine ⟨I', g1, ?_, ?_, ?_⟩
    · intro x hx; rw [g2 x hx, va_up_ne _ _ hx]
    · intro i hi; rw [g3 i (by omega), va_up_self, pk_un (by omega)]
    · intro i h1 h2
      by_cases e : i = j
      · subst e; rw [g3 i (by omega), va_up_self, pk_us]
      · rw [g4 i (by omega) h2, va_up_ne _ _ (by decide)]
theorem m_restore_L {c : Nat} (hc : c < 2) {β : Type} (kk : Int32 → Hp → Option β) : ∀ (m fuel j : Nat) (I : Nat → Nat → Int32), j + m = 54 → m < fuel → ∃ I', f_X12_restore_L32 kk 162 (nI c) fuel (enc I D K n Z) (nI j) = kk (nI 54) (enc I' D K n Z) ∧ (∀ x, x ≠ 166 → I' x = I x) ∧ (∀ i, i < j → I' 166 i = I 166 i) ∧ (∀ i, j ≤ i → i < 54 → I' 166 i = I 175 (54 * c + i)) := by
  intro m
  induction m with
  | zero =>
    intro fuel j I hj hf
    obtain ⟨f, rfl⟩ : ∃ f, fuel = f + 1 := ⟨fuel - 1, by omega⟩
    have e : j = 54 := by omega
    subst e
    exact ⟨I, by rw [f_X12_restore_L32, if_pos (show (54 : Int32) ≤ nI 54 by decide)], fun _ _ => rfl, fun _ _ => rfl, fun i h1 h2 => by omega⟩
  | succ m ih =>
    intro fuel j I hj hf
    obtain ⟨f, rfl⟩ : ∃ f, fuel = f + 1 := ⟨fuel - 1, by omega⟩
    have e8 : ¬ (54 : Int32) ≤ nI j := nI_ge (b := 54) (by omega) (by decide)
    rw [f_X12_restore_L32, if_neg e8]
    simp only [r162_5, r162_29, bA_s, show (54 : Int32) = nI 54 from rfl, pk_mul, nI_add, ald_n s_175 (54 * c + j) (show 54 * c + j < 108 by omega) (by decide), ast_n s_166 j _ (show j < 54 by omega) (by decide), z_i2]
    obtain ⟨I', g1, g2, g3, g4⟩ := ih f (j + 1) (va_up I 166 (upd (I 166) j (I 175 (54 * c + j)))) (by omega) (by omega)
    refine ⟨I', g1, ?_, ?_, ?_⟩
    · intro x hx; rw [g2 x hx, va_up_ne _ _ hx]
    · intro i hi; rw [g3 i (by omega), va_up_self, pk_un (by omega)]
    · intro i h1 h2
      by_cases e : i = j
      · subst e; rw [g3 i (by omega), va_up_self, pk_us]
      · rw [g4 i (by omega) h2, va_up_ne _ _ (by decide)]
theorem m_image_L {c : Nat} (hc : c < 2) {β : Type} (kk : Int32 → Hp → Option β) : ∀ (m fuel j : Nat) (I : Nat → Nat → Int32), j + m = 54 → m < fuel → ∃ I', f_X12_image_L30 kk 162 (nI c) fuel (enc I D K n Z) (nI j) = kk (nI 54) (enc I' D K n Z) ∧ (∀ x, x ≠ 175 → I' x = I x) ∧ (∀ i, (i < 54 * c + j ∨ 54 * c + 54 ≤ i) → I' 175 i = I 175 i) ∧ (∀ i, j ≤ i → i < 54 → I' 175 (54 * c + i) = I 166 i) := by
  intro m
  induction m with
  | zero =>
    intro fuel j I hj hf
    obtain ⟨f, rfl⟩ : ∃ f, fuel = f + 1 := ⟨fuel - 1, by omega⟩
    have e : j = 54 := by omega
    subst e
    exact ⟨I, by rw [f_X12_image_L30, if_pos (show (54 : Int32) ≤ nI 54 by decide)], fun _ _ => rfl, fun _ _ => rfl, fun i h1 h2 => by omega⟩
  | succ m ih =>
    intro fuel j I hj hf
    obtain ⟨f, rfl⟩ : ∃ f, fuel = f + 1 := ⟨fuel - 1, by omega⟩
    have e8 : ¬ (54 : Int32) ≤ nI j := nI_ge (b := 54) (by omega) (by decide)
    rw [f_X12_image_L30, if_neg e8]
    simp only [r162_5, r162_29, bA_s, show (54 : Int32) = nI 54 from rfl, pk_mul, nI_add, ald_n s_166 j (show j < 54 by omega) (by decide), ast_n s_175 (54 * c + j) _ (show 54 * c + j < 108 by omega) (by decide), z_i2]
    obtain ⟨I', g1, g2, g3, g4⟩ := ih f (j + 1) (va_up I 175 (upd (I 175) (54 * c + j) (I 166 j))) (by omega) (by omega)
    refine ⟨I', g1, ?_, ?_, ?_⟩
    · intro x hx; rw [g2 x hx, va_up_ne _ _ hx]
    · intro i hi; rw [g3 i (by omega), va_up_self, pk_un (by omega)]
    · intro i h1 h2
      by_cases e : i = j
      · subst e; rw [g3 _ (by omega), va_up_self, pk_us]
      · rw [g4 i (by omega) h2, va_up_ne _ _ (by decide)]
set_option maxRecDepth 100000 in
set_option maxHeartbeats 4000000 in
theorem k_undo (h : Inv I D K n N) : GD Z N (enc I D K n Z) (fun h => f_X11_undo h 0) (fun h => f_X12_undo h 162) := by
  obtain ⟨o, c, a1, a2, a3, a4, a5, a6⟩ := h.2.2.2.1
  have ez : (nI c = (0 : Int32)) = (c = 0) := z_eq (by omega) (by decide)
  by_cases hz : c = 0
  · refine ⟨-1000002, enc I D K n Z, _, D, K, n, ?_, ?_, h.thr⟩
    · simp only [f_X11_undo, g0_13, bA_s, a4, ez, if_pos hz]
    · simp only [f_X12_undo, p_thr, g162_9, bA_s, thr_s (show 9 ≠ 0 by decide), a5, ez, if_pos hz]
  · have e1 : nI c - (1 : Int32) = nI (c - 1) := by rw [show (1 : Int32) = nI 1 from rfl, pk_sub (by omega)]
    have hm : (o + (c - 1)) % 24 < 24 := Nat.mod_lt _ (by decide)
    obtain ⟨r, r1, r2, r3⟩ := a6 (c - 1) (by omega)
    generalize hs : (o + (c - 1)) % 24 = s at hm r2
    have ei : nI o + nI (c - 1) - (nI o + nI (c - 1)) / (24 : Int32) * (24 : Int32) = nI s := by
      rw [nI_add, show (24 : Int32) = nI 24 from rfl, ← hs]; exact pk_rem (by omega) (by decide) (by decide)
    have hH := isH_act hm
    generalize hI1 : va_up I 0 (upd (I 0) 13 (nI (c - 1))) = I1
    have f1 : ∀ x, x ≠ 0 → I1 x = I x := fun x hx => by rw [← hI1, va_up_ne _ _ hx]
    have f1a : I1 0 = upd (I 0) 13 (nI (c - 1)) := by rw [← hI1, va_up_self]
    obtain ⟨I2, D2, b1, b2', b3, b4, b5⟩ := c_become (I := I1) (D := D) (K := K) (n := n) (Z := Z) h9 hH (by omega) h.2.2.2.2.2.2
    have f2 : I2 0 = I1 0 := b3 0 (by decide) (by decide) (by decide)
    have e13 : I1 0 13 = nI (c - 1) := by rw [f1a, pk_us]
    have e12 : I1 0 12 = nI o := by rw [f1a, pk_un (by decide)]; exact a3
    have ec : f_X11_undo (enc I D K n Z) 0 = some (nI (c - 1), enc I2 D2 K n Z) := by
      simp only [f_X11_undo, g0_13, bA_s, a4, ez, if_neg hz, e1, p0_13, hI1, r0_3, r0_7, g0_12, e12, e13, ei, aldn_e s_24 s hm (by decide), h.2.2.2.2.2.1.2.1 s hm, c9, b1, f2]
    have q2 : ∀ x, x ≠ 0 → x ≠ 9 → x ≠ 10 → x ≠ 11 → I2 x = I x := fun x a b d e => by rw [b3 x b d e, f1 x a]
    generalize hJ : va_up (thr I2) 162 (upd (thr I2 162) 9 (nI (c - 1))) = J
    have j1 : ∀ x, x ≠ 162 → J x = I2 x := fun x hx => by rw [← hJ, va_up_ne _ _ hx, thr_n hx]
    have j9 : J 162 9 = nI (c - 1) := by rw [← hJ, va_up_self, pk_us]
    have j2 : ∀ j, j ≠ 9 → j ≠ 0 → J 162 j = I 162 j := fun j a b => by rw [← hJ, va_up_self, pk_un a, thr_s b, q2 162 (by decide) (by decide) (by decide) (by decide)]
    obtain ⟨J2, g1, g2, g3, g4⟩ := m_undo_L (D := D2) (K := K) (n := n) (Z := Z) (c := c - 1) (by omega) (fun y22 h21 => bA (gI h21 162 11 9) fun g24 => some (g24, h21)) 54 2000 0 J (by omega) (by omega) j9
    rw [show nI 0 = (0 : Int32) by decide] at g1
    have q3 : ∀ x, x ≠ 162 → x ≠ 166 → J2 x = I2 x := fun x a b => by rw [g2 x b, j1 x a]
    have q4 : ∀ x, x ≠ 162 → x ≠ 166 → x ≠ 0 → x ≠ 9 → x ≠ 10 → x ≠ 11 → J2 x = I x := fun x a b d e f g => by rw [q3 x a b, q2 x d e f g]
    have q162 : ∀ j, j ≠ 9 → j ≠ 0 → J2 162 j = I 162 j := fun j a b => by rw [g2 162 (by decide), j2 j a b]
    have q0 : J2 0 = I1 0 := by rw [q3 0 (by decide) (by decide), f2]
    have g : DK I K n J2 K n := DK.of (fun q hq => q4 q (by omega) (by omega) (by omega) (by omega) (by omega) (by omega))
    refine ⟨nI (c - 1), enc I2 D2 K n Z, J2, D2, K, n, ec, ?_, ?_⟩
    · simp only [f_X12_undo, p_thr, g162_9, bA_s, thr_s (show 9 ≠ 0 by decide), q2 162 (by decide) (by decide) (by decide) (by decide), a5, ez, if_neg hz, e1, p162_9]
      have e162 : thr I2 162 = upd (I 162) 0 0 := by unfold thr; rw [va_up_self, q2 162 (by decide) (by decide) (by decide) (by decide)]
      simp only [hJ, g1, g162_9, bA_s, g2 162 (by decide), j9]
    · refine h.acted (by omega) ⟨fun x hx => q4 x (by omega) (by omega) (by omega) (by omega) (by omega) (by omega), ?_, ?_, fun j hj => q162 j (by omega) (by omega)⟩ (fun x hx => b4 x (by omega)) g b5 ?_ ?_ ⟨r, ?_, ?_, Or.inl (r1.mono (by omega))⟩ ⟨o, c - 1, a1, by omega, ?_, ?_, ?_, fun i hi => ?_⟩
      · rw [q0, f1a, pk_un (by decide)]
      · rw [q4 2 (by decide) (by decide) (by decide) (by decide) (by decide) (by decide)]
      · rw [q0, f1a, pk_un (by decide), q162 1 (by decide) (by decide)]; exact h.2.1.2.2.1
      · refine h.2.1.2.2.2.1.keep ?_ ?_ (q162 27 (by decide) (by decide)) ?_
        · rw [q4 13 (by decide) (by decide) (by decide) (by decide) (by decide) (by decide)]
        · exact q4 14 (by decide) (by decide) (by decide) (by decide) (by decide) (by decide)
        · exact q4 173 (by decide) (by decide) (by decide) (by decide) (by decide) (by decide)
      · refine r2.move r1.le8.1 r1.le8.2 ⟨fun j a b => ?_, fun j a => ?_, fun j a => ?_, fun j a => b2'.2.2.2 j a⟩ g
        · rw [q3 9 (by decide) (by decide), b2'.1 j a b, f1 _ (by omega)]
        · rw [q3 (9 + 1) (by decide) (by decide), b2'.2.1 j a, f1 _ (by omega)]
        · rw [q3 (9 + 2) (by decide) (by decide), b2'.2.2.1 j a, f1 _ (by omega)]
      · intro j hj
        rw [g4 j (by omega) hj, j1 169 (by decide), q2 169 (by decide) (by decide) (by decide) (by decide)]; exact r3 j hj
      · rw [q0, e12]
      · rw [q0, e13]
      · rw [g2 162 (by decide), j9]
      · obtain ⟨r', k1, k2, k3⟩ := a6 i (by omega)
        have hmi : (o + i) % 24 < 24 := Nat.mod_lt _ (by decide)
        refine ⟨r', k1.mono (by omega), k2.move k1.le8.1 k1.le8.2 (HF.self ?_ ?_ ?_ ?_) g, fun j hj => ?_⟩
        · exact q4 _ (by omega) (by omega) (by omega) (by omega) (by omega) (by omega)
        · exact q4 _ (by omega) (by omega) (by omega) (by omega) (by omega) (by omega)
        · exact q4 _ (by omega) (by omega) (by omega) (by omega) (by omega) (by omega)
        · exact b4 _ (by omega)
        · rw [q4 169 (by decide) (by decide) (by decide) (by decide) (by decide) (by decide)]; exact k3 j hj
end ActCalls2
