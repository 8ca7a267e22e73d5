/-! CALLS THAT ASK ABOUT DOORS AND ROOMS -/
section Asks
variable {I I' : Nat → Nat → Int32} {D : Nat → Nat → Option Nat} {K : Nat → Nat} {n N : Nat} {Z : Nat → Cl} {r : Ro}
theorem h9 : isH 9 := by simp [isH]
theorem R166 : isRa 166 := Or.inl rfl
theorem R168 : isRa 168 := Or.inr rfl
theorem m_isDoor (hM : MH (I 166) r) (h0 : r 0 ≤ 8) (x : Int32) : f_X12_isDoor (enc I D K n Z) 162 x = some (if 0 ≤ x.toInt ∧ x.toInt < r 0 then 1 else 0, enc I D K n Z) := by
  have l0 : ald (enc I D K n Z) 166 0 (0 : Int32) = some (nI (r 0)) := by rw [← hM 0 (by decide)]; exact ald_n s_166 0 (by decide) (by decide)
  simp only [f_X12_isDoor, r162_5, bA_s, l0, m_inN _ x (r 0) (by omega), b2_s]
  by_cases hx : 0 ≤ x.toInt ∧ x.toInt < r 0
  · simp only [if_pos hx, bz1, bA_s]
  · simp only [if_neg hx, bz0, bA_s]
theorem m_isRoom (hM : MH (I 166) r) (h0 : r 1 ≤ 8) (x : Int32) : f_X12_isRoom (enc I D K n Z) 162 x = some (if 0 ≤ x.toInt ∧ x.toInt < r 1 then 1 else 0, enc I D K n Z) := by
  have l0 : ald (enc I D K n Z) 166 0 (1 : Int32) = some (nI (r 1)) := by rw [← hM 1 (by decide)]; exact ald_n s_166 1 (by decide) (by decide)
  simp only [f_X12_isRoom, r162_5, bA_s, l0, m_inN _ x (r 1) (by omega), b2_s]
  by_cases hx : 0 ≤ x.toInt ∧ x.toInt < r 1
  · simp only [if_pos hx, bz1, bA_s]
  · simp only [if_neg hx, bz0, bA_s]
theorem m_isThere (hM : MH (I 166) r) (h0 : r 1 ≤ 8) : f_X12_isThere (enc I D K n Z) 162 = some (if r 1 = 0 then 0 else 1, enc I D K n Z) := by
  have l0 : ald (enc I D K n Z) 166 0 (1 : Int32) = some (nI (r 1)) := by rw [← hM 1 (by decide)]; exact ald_n s_166 1 (by decide) (by decide)
  have e : (nI (r 1) ≤ (0 : Int32)) = (r 1 ≤ 0) := z_le (by omega) (by decide)
  simp only [f_X12_isThere, r162_5, bA_s, l0, e]
  by_cases hx : r 1 = 0
  · simp only [if_pos hx, if_pos (show r 1 ≤ 0 by omega), bz0, bA_s]
  · simp only [if_neg hx, if_neg (show ¬ r 1 ≤ 0 by omega), bz1, bA_s]
theorem c_stands9 {a : Nat} (ha : isH a) (h3 : I a 3 = nI (r 1)) (h0 : r 1 ≤ 8) : f_X3_stands (enc I D K n Z) a = some (if r 1 = 0 then 0 else 1, enc I D K n Z) := by
  have e : (nI (r 1) ≤ (0 : Int32)) = (r 1 ≤ 0) := z_le (by omega) (by decide)
  rw [c_stands ha, h3]
  simp only [e]
  by_cases hx : r 1 = 0
  · simp only [if_pos hx, if_pos (show r 1 ≤ 0 by omega)]
  · simp only [if_neg hx, if_neg (show ¬ r 1 ≤ 0 by omega)]
/-- the reference's first word -/
def thr (I : Nat → Nat → Int32) : Nat → Nat → Int32 := va_up I 162 (upd (I 162) 0 0)
theorem thr_n {x : Nat} (h : x ≠ 162) : thr I x = I x := va_up_ne _ _ h
theorem thr_s {j : Nat} (h : j ≠ 0) : thr I 162 j = I 162 j := by unfold thr; rw [va_up_self, pk_un h]
theorem p_thr : pV (enc I D K n Z) 162 11 0 (.inl 0) = some (enc (thr I) D K n Z) := p162_0 0
theorem thr_M {a : Nat} (h : a ≠ 162) (hM : MH (I a) r) : MH (thr I a) r := by rw [thr_n h]; exact hM
theorem Inv.thr (h : Inv I D K n N) : Inv (thr I) D K n (N + 1) := h.thrown
theorem st_wf (h : wf r N ∨ ∀ j, r j = 0) (h0 : ¬ r 1 = 0) : wf r N := h.resolve_right (fun g => h0 (g 1))
theorem dr_wf (h : wf r N ∨ ∀ j, r j = 0) {k : Nat} (h0 : k < r 0) : wf r N := h.resolve_right (fun g => by rw [g 0] at h0; omega)
theorem rm_wf (h : wf r N ∨ ∀ j, r j = 0) {k : Nat} (h0 : k < r 1) : wf r N := h.resolve_right (fun g => by rw [g 1] at h0; omega)
set_option maxRecDepth 100000 in
set_option maxHeartbeats 4000000 in
theorem k_kind (h : Inv I D K n N) (x : Int32) : GD Z N (enc I D K n Z) (fun h => f_X11_kind h 0 x) (fun h => f_X12_kind h 162 x) := by
  obtain ⟨r, hc, hM, hw⟩ := h.2.2.1
  obtain ⟨r18, r08⟩ := ho8 hw
  have hM' := thr_M (show 166 ≠ 162 by decide) hM
  by_cases hx : 0 ≤ x.toInt ∧ x.toInt < r 0
  · obtain ⟨k, hk, rfl⟩ := (ix_in (m := r 0) (by omega)).mp hx
    obtain ⟨q, hq1, hq2⟩ := hc.2.2.2 k hk
    have hq1 : D 12 k = some q := hq1
    refine ⟨nI (r (14 + 5 * k)), enc I D K n Z, _, D, K, n, ?_, ?_, h.thr⟩
    · simp only [f_X11_kind, r0_3, bA_s, c9, c_doorAt_in h9 r08 hc.1.2.1 hk, b2_s, hq1, gC_e hq2.1, d_sort hq2]
    · simp only [f_X12_kind, p_thr, bA_s, c162, m_isDoor hM' r08, b2_s, if_pos hx, if_neg one0, r162_5, m_of0 R166 hM' (show k < 8 by omega)]
  · refine ⟨-1000001, enc I D K n Z, _, D, K, n, ?_, ?_, h.thr⟩
    · simp only [f_X11_kind, r0_3, bA_s, c9, c_doorAt_out h9 r08 hc.1.2.1 hx, b2_s]
    · simp only [f_X12_kind, p_thr, bA_s, c162, m_isDoor hM' r08, b2_s, if_neg hx, if_true]
set_option maxRecDepth 100000 in
set_option maxHeartbeats 4000000 in
theorem k_door (h : Inv I D K n N) (hN : N ≤ 2000) (x w : Int32) : GD Z N (enc I D K n Z) (fun h => f_X11_door h 0 x w) (fun h => f_X12_door h 162 x w) := by
  obtain ⟨r, hc, hM, hw⟩ := h.2.2.1
  obtain ⟨r18, r08⟩ := ho8 hw
  have hM' := thr_M (show 166 ≠ 162 by decide) hM
  by_cases hx : 0 ≤ x.toInt ∧ x.toInt < r 0
  · obtain ⟨k, hk, rfl⟩ := (ix_in (m := r 0) (by omega)).mp hx
    obtain ⟨q, hq1, hq2⟩ := hc.2.2.2 k hk
    have hq1 : D 12 k = some q := hq1
    have hwr : I 11 k = nI (r (18 + 5 * k)) := hc.2.2.1 k hk
    have hwf := dr_wf hw hk
    obtain ⟨u1, u2, u3, u4, u5, u6⟩ := hwf.2.2.2.2.2.2 k hk
    have hk8 : k < 8 := by omega
    have ld : f_X3_lacksDoor (enc I D K n Z) 9 (nI k) = some (0, enc I D K n Z) := by rw [c_lacksDoor h9 r08 hc.1.2.1, if_pos hx]
    have lw : ald (enc I D K n Z) 11 0 (nI k) = some (nI (r (18 + 5 * k))) := by rw [← hwr]; exact ald_n (s_H2 h9) k hk8 (by decide)
    have go : ∀ v, f_X11_door (enc I D K n Z) 0 (nI k) w = some (v, enc I D K n Z) → f_X12_door (enc I D K n Z) 162 (nI k) w = some (v, enc (thr I) D K n Z) → GD Z N (enc I D K n Z) (fun h => f_X11_door h 0 (nI k) w) (fun h => f_X12_door h 162 (nI k) w) := fun v a b => ⟨v, enc I D K n Z, _, D, K, n, a, b, h.thr⟩
    have ecl : f_X11_door (enc I D K n Z) 0 (nI k) w = (if w = (0 : Int32) then some (nI (r (15 + 5 * k)), enc I D K n Z) else if w = (1 : Int32) then some (nI (r (16 + 5 * k)), enc I D K n Z) else if w = (2 : Int32) then some (nI (r (17 + 5 * k)), enc I D K n Z) else if w = (3 : Int32) then some (nI (r (18 + 5 * k)), enc I D K n Z) else if w = (4 : Int32) then some (nI (loudN r k), enc I D K n Z) else if w = (5 : Int32) then some (nI (gapN r k), enc I D K n Z) else some (-1000001, enc I D K n Z)) := by
      simp only [f_X11_door, r0_3, bA_s, c9, c_doorAt_in h9 r08 hc.1.2.1 hk, b2_s, hq1, ld, if_true, gD_e hq2.1 1 (by decide), gD_e hq2.1 2 (by decide), gD_e hq2.1 3 (by decide), hq2.2.2.2.1, hq2.2.2.2.2.1, hq2.2.2.2.2.2, r9_1, lw, gC_e hq2.1, d_loud hq2 u5 (by omega), d_gap hq2]
    have emo : f_X12_door (enc I D K n Z) 162 (nI k) w = (if w = (0 : Int32) then some (nI (r (15 + 5 * k)), enc (thr I) D K n Z) else if w = (1 : Int32) then some (nI (r (16 + 5 * k)), enc (thr I) D K n Z) else if w = (2 : Int32) then some (nI (r (17 + 5 * k)), enc (thr I) D K n Z) else if w = (3 : Int32) then some (nI (r (18 + 5 * k)), enc (thr I) D K n Z) else if w = (4 : Int32) then some (nI (loudN r k), enc (thr I) D K n Z) else if w = (5 : Int32) then some (nI (gapN r k), enc (thr I) D K n Z) else some (-1000001, enc (thr I) D K n Z)) := by
      simp only [f_X12_door, p_thr, bA_s, c162, m_isDoor hM' r08, b2_s, if_pos hx, if_neg one0, r162_5, m_of1 R166 hM' hk8, m_of2 R166 hM' hk8, m_of3 R166 hM' hk8, m_of4 R166 hM' hk8, m_loud R166 hM' hk8 u1.1 u1.2 u5, m_gap R166 hM' hk8 u1.1 u1.2]
    by_cases w0 : w = (0 : Int32)
    · exact go _ (by rw [ecl, if_pos w0]) (by rw [emo, if_pos w0])
    · by_cases w1 : w = (1 : Int32)
      · exact go _ (by rw [ecl, if_neg w0, if_pos w1]) (by rw [emo, if_neg w0, if_pos w1])
      · by_cases w2 : w = (2 : Int32)
        · exact go _ (by rw [ecl, if_neg w0, if_neg w1, if_pos w2]) (by rw [emo, if_neg w0, if_neg w1, if_pos w2])
        · by_cases w3 : w = (3 : Int32)
          · exact go _ (by rw [ecl, if_neg w0, if_neg w1, if_neg w2, if_pos w3]) (by rw [emo, if_neg w0, if_neg w1, if_neg w2, if_pos w3])
          · by_cases w4 : w = (4 : Int32)
            · exact go _ (by rw [ecl, if_neg w0, if_neg w1, if_neg w2, if_neg w3, if_pos w4]) (by rw [emo, if_neg w0, if_neg w1, if_neg w2, if_neg w3, if_pos w4])
            · by_cases w5 : w = (5 : Int32)
              · exact go _ (by rw [ecl, if_neg w0, if_neg w1, if_neg w2, if_neg w3, if_neg w4, if_pos w5]) (by rw [emo, if_neg w0, if_neg w1, if_neg w2, if_neg w3, if_neg w4, if_pos w5])
              · exact go _ (by rw [ecl, if_neg w0, if_neg w1, if_neg w2, if_neg w3, if_neg w4, if_neg w5]) (by rw [emo, if_neg w0, if_neg w1, if_neg w2, if_neg w3, if_neg w4, if_neg w5])
  · refine ⟨-1000001, enc I D K n Z, _, D, K, n, ?_, ?_, h.thr⟩
    · simp only [f_X11_door, r0_3, bA_s, c9, c_doorAt_out h9 r08 hc.1.2.1 hx, b2_s]
    · simp only [f_X12_door, p_thr, bA_s, c162, m_isDoor hM' r08, b2_s, if_neg hx, if_true]
theorem d_is {q k : Nat} (hq : DR I K n q k r) (x : Nat) (hx : x ≤ 5) : ∃ v : Int32, v_X2_is (K q) (enc I D K n Z) q (nI x) = some (v, enc I D K n Z) ∧ ∀ h : Hp, f_X12_isOf h (nI (r (14 + 5 * k))) (nI x) = some (v, h) := by
  have hg := gC_e (I := I) (D := D) (Z := Z) hq.1
  rw [← hq.2.1]
  rcases isD5 hq.1.2.2 with e | e | e | e | e <;> rw [e] at hg ⊢ <;> rcases (show x = 0 ∨ x = 1 ∨ x = 2 ∨ x = 3 ∨ x = 4 ∨ x = 5 by omega) with rfl | rfl | rfl | rfl | rfl | rfl <;> refine ⟨_, ?_, fun _ => rfl⟩ <;> simp only [v_X2_is, Nat.reduceEqDiff, if_false, if_true, f_X0_is, f_X1_is, f_X4_is, f_X5_is, f_X9_is, f_X2_is, hg, bA_s] <;> rfl
set_option maxRecDepth 100000 in
set_option maxHeartbeats 4000000 in
theorem k_as (h : Inv I D K n N) (x w : Int32) : GD Z N (enc I D K n Z) (fun h => f_X11_as h 0 x w) (fun h => f_X12_as h 162 x w) := by
  obtain ⟨r, hc, hM, hw⟩ := h.2.2.1
  obtain ⟨r18, r08⟩ := ho8 hw
  have hM' := thr_M (show 166 ≠ 162 by decide) hM
  have hin : ∀ h : Hp, f_X12_in h w.toInt64 (0 : Int64) (5 : Int64) = some (if (0 : Int) ≤ w.toInt ∧ w.toInt ≤ (5 : Nat) then 1 else 0, h) := fun h => in02 h w 5 (by decide) (by decide)
  by_cases hx : 0 ≤ x.toInt ∧ x.toInt < r 0
  · obtain ⟨k, hk, rfl⟩ := (ix_in (m := r 0) (by omega)).mp hx
    obtain ⟨q, hq1, hq2⟩ := hc.2.2.2 k hk
    have hq1 : D 12 k = some q := hq1
    have hk8 : k < 8 := by omega
    by_cases hww : (0 : Int) ≤ w.toInt ∧ w.toInt ≤ (5 : Nat)
    · have w0 : ¬ w < 0 := by rw [fa_lt, i32z]; omega
      have w5 : w ≤ (5 : Int32) := by rw [fa_le, show (5 : Int32).toInt = 5 by decide]; omega
      obtain ⟨y, hy, rfl⟩ := (ix_in (x := w) (m := 6) (by decide)).mp ⟨hww.1, by omega⟩
      obtain ⟨v, v1, v2⟩ := d_is (D := D) (Z := Z) hq2 y (by omega)
      by_cases hv : v = 0
      · refine ⟨-1000010 - 3, enc (va_up I 0 (upd (I 0) 15 3)) D K n Z, stI I 3, D, K, n, ?_, ?_, h.told 3⟩
        · simp only [f_X11_as, r0_3, bA_s, c9, c_doorAt_in h9 r08 hc.1.2.1 hk, b2_s, hq1, if_neg w0, if_pos w5, gC_e hq2.1, v1, if_pos hv, c0, f_X11_found, p0_15]
        · have hM2 : MH (thr (va_up I 0 (upd (I 0) 15 3)) 166) r := by rw [thr_n (by decide), va_up_ne _ _ (by decide)]; exact hM
          have hM3 : MH (va_up (thr (va_up I 0 (upd (I 0) 15 3))) 162 (upd (thr (va_up I 0 (upd (I 0) 15 3)) 162) 1 0) 166) r := by rw [va_up_ne _ _ (by decide)]; exact hM2
          simp only [f_X12_as, p_thr, bA_s, c162, m_isDoor hM2 r08, b2_s, if_pos hx, if_neg one0, hin, if_pos hww, p162_1, r162_5, m_of0 R166 hM3 hk8, v2, if_pos hv, f_X12_finding, va_up_self, bx_uu, fa_upd_twice]
          congr 3
          unfold thr stI
          rw [bx_uu, va_up_self, va_up_ne _ _ (show 162 ≠ 0 by decide)]
      · refine ⟨nI k, enc (va_up I 0 (upd (I 0) 15 0)) D K n Z, stI I 0, D, K, n, ?_, ?_, h.told 0⟩
        · simp only [f_X11_as, r0_3, bA_s, c9, c_doorAt_in h9 r08 hc.1.2.1 hk, b2_s, hq1, if_neg w0, if_pos w5, gC_e hq2.1, v1, if_neg hv, gD_e hq2.1 0 (by decide), hq2.2.2.1, c0, f_X11_well, p0_15]
        · have hM2 : MH (thr (va_up I 0 (upd (I 0) 15 0)) 166) r := by rw [thr_n (by decide), va_up_ne _ _ (by decide)]; exact hM
          have hM3 : MH (va_up (thr (va_up I 0 (upd (I 0) 15 0))) 162 (upd (thr (va_up I 0 (upd (I 0) 15 0)) 162) 1 0) 166) r := by rw [va_up_ne _ _ (by decide)]; exact hM2
          simp only [f_X12_as, p_thr, bA_s, c162, m_isDoor hM2 r08, b2_s, if_pos hx, if_neg one0, hin, if_pos hww, p162_1, r162_5, m_of0 R166 hM3 hk8, v2, if_neg hv]
          congr 3
          unfold thr stI
          rw [bx_uu, va_up_self, va_up_ne _ _ (show 162 ≠ 0 by decide)]
    · refine ⟨-1000001, enc I D K n Z, _, D, K, n, ?_, ?_, h.thr⟩
      · by_cases w0 : w < 0
        · simp only [f_X11_as, r0_3, bA_s, c9, c_doorAt_in h9 r08 hc.1.2.1 hk, b2_s, hq1, if_pos w0]
        · have w0' := fa_of_nlt w0
          rw [fa_le, i32z] at w0'
          have w5 : ¬ w ≤ (5 : Int32) := by rw [fa_le, show (5 : Int32).toInt = 5 by decide]; omega
          simp only [f_X11_as, r0_3, bA_s, c9, c_doorAt_in h9 r08 hc.1.2.1 hk, b2_s, hq1, if_neg w0, if_neg w5]
      · simp only [f_X12_as, p_thr, bA_s, c162, m_isDoor hM' r08, b2_s, if_pos hx, if_neg one0, hin, if_neg hww, if_true]
  · refine ⟨-1000001, enc I D K n Z, _, D, K, n, ?_, ?_, h.thr⟩
    · simp only [f_X11_as, r0_3, bA_s, c9, c_doorAt_out h9 r08 hc.1.2.1 hx, b2_s]
    · simp only [f_X12_as, p_thr, bA_s, c162, m_isDoor hM' r08, b2_s, if_neg hx, if_true]
end Asks
