/-! CALLS THAT ARE ACTS: oil, bring, rule -/
section ActCalls
variable {I : Nat → Nat → Int32} {D : Nat → Nat → Option Nat} {K : Nat → Nat} {n N : Nat} {Z : Nat → Cl} {r r' : Ro}
theorem act_inv (h : Inv I D K n N) (hc : CH I D K n 9 r) (hM : MH (I 166) r) (hw : wf r N) {o c : Nat} (ho : o < 24) (hc24 : c ≤ 24) (h6 : ∀ i, i < c → ∃ r, wf r N ∧ CH I D K n (46 + 4 * ((o + i) % 24)) r ∧ ∀ j, j < 54 → I 169 (54 * i + j) = nI (r j))
    {I1 : Nat → Nat → Int32} {D1 : Nat → Nat → Option Nat} (k1 : HF I D I1 D1 (46 + 4 * ((o + c) % 24)) 9) (k2 : ∀ x, (x < 46 + 4 * ((o + c) % 24) ∨ 46 + 4 * ((o + c) % 24) + 2 < x) → x ≠ 0 → I1 x = I x) (k3 : ∀ x, x ≠ 46 + 4 * ((o + c) % 24) + 3 → D1 x = D x) (k4 : DV D1 K n) (k5 : I1 0 12 = nI (if c = 24 then (o + 1) % 24 else o)) (k6 : I1 0 13 = nI (if c = 24 then 24 else c + 1)) (k7 : ∀ j, j ≠ 12 → j ≠ 13 → I1 0 j = I 0 j)
    {I2 : Nat → Nat → Int32} (e2 : ∀ x, x ≠ 9 → x ≠ 10 → x ≠ 11 → I2 x = I1 x) (hc2 : CH I2 D1 K n 9 r')
    {J : Nat → Nat → Int32} (m1 : ∀ x, x ≠ 169 → x ≠ 162 → J x = thr I2 x) (m2 : ∀ j, j ≠ 9 → J 162 j = thr I2 162 j) (m3 : J 162 9 = nI (if c = 24 then 24 else c + 1)) (m4 : ∀ i j, j < 54 → i < (if c = 24 then 23 else c) → J 169 (54 * i + j) = thr I2 169 (54 * (if c = 24 then i + 1 else i) + j)) (m5 : ∀ j, j < 54 → J 169 (54 * (if c = 24 then 23 else c) + j) = thr I2 166 j)
    {J2 : Nat → Nat → Int32} (e3 : ∀ x, x ≠ 166 → J2 x = J x) (hM2 : MH (J2 166) r') (hw2 : wf r' (N + 1)) : Inv J2 D1 K n (N + 1) := by
  have hm : (o + c) % 24 < 24 := Nat.mod_lt _ (by decide)
  have q2 : ∀ x, x ≠ 162 → x ≠ 166 → x ≠ 169 → J2 x = I2 x := fun x a b d => by rw [e3 x b, m1 x d a, thr_n a]
  have q1 : ∀ x, x ≠ 162 → x ≠ 166 → x ≠ 169 → x ≠ 9 → x ≠ 10 → x ≠ 11 → J2 x = I1 x := fun x a b d e f g => by rw [q2 x a b d, e2 x e f g]
  have q0 : ∀ x, x ≠ 162 → x ≠ 166 → x ≠ 169 → x ≠ 9 → x ≠ 10 → x ≠ 11 → x ≠ 0 → (x < 46 + 4 * ((o + c) % 24) ∨ 46 + 4 * ((o + c) % 24) + 2 < x) → J2 x = I x := fun x a b d e f g i j => by rw [q1 x a b d e f g, k2 x j i]
  have q162 : ∀ j, j ≠ 9 → j ≠ 0 → J2 162 j = I 162 j := fun j a b => by rw [e3 162 (by decide), m2 j a, thr_s b, e2 162 (by decide) (by decide) (by decide), k2 162 (by omega) (by decide)]
  have t169 : thr I2 169 = I 169 := by rw [thr_n (by decide), e2 169 (by decide) (by decide) (by decide), k2 169 (by omega) (by decide)]
  have t166 : thr I2 166 = I 166 := by rw [thr_n (by decide), e2 166 (by decide) (by decide) (by decide), k2 166 (by omega) (by decide)]
  have g : DK I K n J2 K n := DK.of (fun q hq => q0 q (by omega) (by omega) (by omega) (by omega) (by omega) (by omega) (by omega) (by omega))
  have g2 : DK I2 K n J2 K n := DK.of (fun q hq => q2 q (by omega) (by omega) (by omega))
  have h0 : J2 0 = I1 0 := q1 0 (by decide) (by decide) (by decide) (by decide) (by decide) (by decide)
  refine h.acted (by omega) ⟨fun x hx => q0 x (by omega) (by omega) (by omega) (by omega) (by omega) (by omega) (by omega) (by omega), ?_, ?_, fun j hj => q162 j (by omega) (by omega)⟩ (fun x hx => k3 x (by omega)) g k4 ?_ ?_ ⟨r', ?_, hM2, Or.inl hw2⟩ ?_
  · rw [h0]; exact k7 14 (by decide) (by decide)
  · rw [q0 2 (by decide) (by decide) (by decide) (by decide) (by decide) (by decide) (by decide) (by omega)]
  · rw [h0, k7 15 (by decide) (by decide), q162 1 (by decide) (by decide)]; exact h.2.1.2.2.1
  · refine h.2.1.2.2.2.1.keep ?_ ?_ (q162 27 (by decide) (by decide)) ?_
    · rw [q0 13 (by decide) (by decide) (by decide) (by decide) (by decide) (by decide) (by decide) (by omega)]
    · exact q0 14 (by decide) (by decide) (by decide) (by decide) (by decide) (by decide) (by decide) (by omega)
    · exact q0 173 (by decide) (by decide) (by decide) (by decide) (by decide) (by decide) (by decide) (by omega)
  · exact hc2.move hw2.le8.1 hw2.le8.2 (HF.self (q2 9 (by decide) (by decide) (by decide)) (q2 10 (by decide) (by decide) (by decide)) (q2 11 (by decide) (by decide) (by decide)) rfl) g2
  · refine acts_push ho hc24 h6 hc hM hw (by omega) g ⟨fun j a b => ?_, fun j a => ?_, fun j a => ?_, k1.2.2.2⟩ (fun t ht hne => HF.self ?_ ?_ ?_ ?_) (by rw [h0]; exact k5) (by rw [h0]; exact k6) ?_ (fun i j a b => ?_) (fun j a => ?_)
    · rw [q1 _ (by omega) (by omega) (by omega) (by omega) (by omega) (by omega)]; exact k1.1 j a b
    · rw [q1 _ (by omega) (by omega) (by omega) (by omega) (by omega) (by omega)]; exact k1.2.1 j a
    · rw [q1 _ (by omega) (by omega) (by omega) (by omega) (by omega) (by omega)]; exact k1.2.2.1 j a
    · exact q0 _ (by omega) (by omega) (by omega) (by omega) (by omega) (by omega) (by omega) (by omega)
    · exact q0 _ (by omega) (by omega) (by omega) (by omega) (by omega) (by omega) (by omega) (by omega)
    · exact q0 _ (by omega) (by omega) (by omega) (by omega) (by omega) (by omega) (by omega) (by omega)
    · exact k3 _ (by omega)
    · rw [e3 162 (by decide)]; exact m3
    · rw [e3 169 (by decide), m4 i j a b, t169]
    · rw [e3 169 (by decide), m5 j a, t166]
theorem keep9 {I1 : Nat → Nat → Int32} {D1 : Nat → Nat → Option Nat} {s : Nat} (hs : 46 ≤ s) (hc : CH I D K n 9 r) (hw : wf r N) (k2 : ∀ x, (x < s ∨ s + 2 < x) → x ≠ 0 → I1 x = I x) (hs2 : s < 142) (k3 : ∀ x, x ≠ s + 3 → D1 x = D x) : CH I1 D1 K n 9 r := hc.move hw.le8.1 hw.le8.2 (HF.self (k2 9 (by omega) (by omega)) (k2 10 (by omega) (by omega)) (k2 11 (by omega) (by omega)) (k3 12 (by omega))) (DK.of (fun q hq => k2 q (by omega) (by omega)))
set_option maxRecDepth 100000 in
set_option maxHeartbeats 4000000 in
theorem k_oil (h : Inv I D K n N) (hN : N ≤ 2000) (x : Int32) : GD Z N (enc I D K n Z) (fun h => f_X11_oil h 0 x) (fun h => f_X12_oil h 162 x) := by
  obtain ⟨r, hc, hM, hw⟩ := h.2.2.1
  obtain ⟨r18, r08⟩ := ho8 hw
  have hM' := thr_M (show 166 ≠ 162 by decide) hM
  by_cases hx : 0 ≤ x.toInt ∧ x.toInt < r 0
  · obtain ⟨k, hk, rfl⟩ := (ix_in (m := r 0) (by omega)).mp hx
    have hwf := dr_wf hw hk
    have hk8 : k < 8 := by omega
    have hwr : I 11 k = nI (r (18 + 5 * k)) := hc.2.2.1 k hk
    have hu := (hwf.2.2.2.2.2.2 k hk).2.2.2.2.2
    have lw : ald (enc I D K n Z) 11 0 (nI k) = some (nI (r (18 + 5 * k))) := by rw [← hwr]; exact ald_n (s_H2 h9) k hk8 (by decide)
    have ez : (nI (r (18 + 5 * k)) = (0 : Int32)) = (r (18 + 5 * k) = 0) := z_eq (by omega) (by decide)
    by_cases hz : r (18 + 5 * k) = 0
    · refine ⟨-1000002, enc I D K n Z, _, D, K, n, ?_, ?_, h.thr⟩
      · simp only [f_X11_oil, r0_3, bA_s, c9, c_lacksDoor h9 r08 hc.1.2.1, b2_s, if_pos hx, if_true, r9_1, lw, ez, if_pos hz]
      · simp only [f_X12_oil, p_thr, bA_s, c162, m_isDoor hM' r08, b2_s, if_pos hx, if_neg one0, r162_5, m_of4 R166 hM' hk8, ez, if_pos hz]
    · obtain ⟨o, c, a1, a2, a3, a4, a5, a6⟩ := h.2.2.2.1
      have hm : (o + c) % 24 < 24 := Nat.mod_lt _ (by decide)
      obtain ⟨I1, D1, k0, k1, k2, k3, k4, k5, k6, k7⟩ := c_keep (Z := Z) h.2.2.2.2.2.2 h.2.2.2.2.2.1 a1 a2 a3 a4
      have hc1 := keep9 (by omega) hc hwf k2 (by omega) k3
      generalize hI2 : va_up I1 11 (upd (I1 11) k (nI 0)) = I2
      have f2 : ∀ x, x ≠ 11 → I2 x = I1 x := fun x hx => by rw [← hI2, va_up_ne _ _ hx]
      have hc2 : CH I2 D1 K n 9 (uN r (18 + 5 * k) 0) := by rw [← hI2]; exact hc1.wear h9 r18 0
      have t2 : ∀ x, x ≠ 162 → x ≠ 11 → x ≠ 0 → (x < 46 + 4 * ((o + c) % 24) ∨ 46 + 4 * ((o + c) % 24) + 2 < x) → thr I2 x = I x := fun x a b d e => by rw [thr_n a, f2 x b, k2 x e d]
      have hM2 : MH (thr I2 166) r := by rw [t2 166 (by decide) (by decide) (by decide) (by omega)]; exact hM
      have h9c : thr I2 162 9 = nI c := by rw [thr_s (by decide), f2 162 (by decide), k2 162 (by omega) (by decide)]; exact a5
      obtain ⟨J, b0, b1, b2', b3, b4, b5⟩ := m_keep (D := D1) (K := K) (n := n) (Z := Z) a2 h9c
      have hMJ : MH (J 166) r := by rw [b1 166 (by decide) (by decide)]; exact hM2
      refine ⟨nI (r (18 + 5 * k)), enc I2 D1 K n Z, va_up J 166 (upd (J 166) (18 + 5 * k) (nI 0)), D1, K, n, ?_, ?_, ?_⟩
      · simp only [f_X11_oil, r0_3, bA_s, c9, c_lacksDoor h9 r08 hc.1.2.1, b2_s, if_pos hx, if_true, r9_1, lw, ez, if_neg hz, c0, k0, ast_n (s_H2 h9) k _ hk8 (show 8 < 2 ^ 31 by decide)]
        rw [← hI2]; rfl
      · simp only [f_X12_oil, p_thr, bA_s, c162, m_isDoor hM2 r08, b2_s, if_pos hx, if_neg one0, r162_5, m_of4 R166 hM2 hk8, ez, if_neg hz, b0, m_be4 R166 hk8]
        rfl
      · exact act_inv h hc hM hwf a1 a2 a6 k1 k2 k3 k4 k5 k6 k7 (fun x a b d => f2 x d) hc2 b1 b2' b3 b4 b5 (fun x hx => va_up_ne _ _ hx) (by rw [va_up_self]; exact hMJ.upd _ _) ((hwf.wear (by omega)).mono (by omega))
  · refine ⟨-1000001, enc I D K n Z, _, D, K, n, ?_, ?_, h.thr⟩
    · simp only [f_X11_oil, r0_3, bA_s, c9, c_lacksDoor h9 r08 hc.1.2.1, b2_s, if_neg hx, if_neg one0]
    · simp only [f_X12_oil, p_thr, bA_s, c162, m_isDoor hM' r08, b2_s, if_neg hx, if_true]
set_option maxRecDepth 100000 in
set_option maxHeartbeats 4000000 in
theorem k_bring (h : Inv I D K n N) (x y : Int32) : GD Z N (enc I D K n Z) (fun h => f_X11_bring h 0 x y) (fun h => f_X12_bring h 162 x y) := by
  obtain ⟨r, hc, hM, hw⟩ := h.2.2.1
  obtain ⟨r18, r08⟩ := ho8 hw
  have hM' := thr_M (show 166 ≠ 162 by decide) hM
  have hin : ∀ h : Hp, f_X12_in h y.toInt64 (1 : Int64) (20 : Int64) = some (if ((1 : Nat) : Int) ≤ y.toInt ∧ y.toInt ≤ (20 : Nat) then 1 else 0, h) := by
    intro h
    have := m_inL h y 1 20 (by decide) (by decide)
    rw [show (nI 1).toInt64 = (1 : Int64) by decide, show (nI 20).toInt64 = (20 : Int64) by decide] at this
    exact this
  by_cases hx : 0 ≤ x.toInt ∧ x.toInt < r 1
  · by_cases hy : ((1 : Nat) : Int) ≤ y.toInt ∧ y.toInt ≤ (20 : Nat)
    · have y1 : ¬ y < (1 : Int32) := by rw [fa_lt, show (1 : Int32).toInt = 1 by decide]; omega
      have y2 : y ≤ (20 : Int32) := by rw [fa_le, show (20 : Int32).toInt = 20 by decide]; omega
      obtain ⟨m, hm, rfl⟩ := (ix_in (m := r 1) (by omega)).mp hx
      obtain ⟨v, hv, rfl⟩ := (ix_in (x := y) (m := 21) (by decide)).mp ⟨by omega, by omega⟩
      have hwf := rm_wf hw hm
      have hm8 : m < 8 := by omega
      have hv20 : v ≤ 20 := by omega
      have hwt : I 10 m = nI (r (6 + m)) := hc.2.1 m hm
      have hu := hwf.2.2.2.2.2.1 m hm8
      have lw : ald (enc I D K n Z) 10 0 (nI m) = some (nI (r (6 + m))) := by rw [← hwt]; exact ald_n (s_H1 h9) m hm8 (by decide)
      have ez : (nI (r (6 + m)) = (0 : Int32)) = (r (6 + m) = 0) := z_eq (by omega) (by decide)
      have el : (nI (r (6 + m)) ≤ (0 : Int32)) = (r (6 + m) ≤ 0) := z_le (by omega) (by decide)
      have e6 : (6 : Int32) + nI m = nI (6 + m) := by rw [show (6 : Int32) = nI 6 from rfl, nI_add]
      by_cases hz : r (6 + m) = 0
      · obtain ⟨o, c, a1, a2, a3, a4, a5, a6⟩ := h.2.2.2.1
        have hm24 : (o + c) % 24 < 24 := Nat.mod_lt _ (by decide)
        obtain ⟨I1, D1, k0, k1, k2, k3, k4, k5, k6, k7⟩ := c_keep (Z := Z) h.2.2.2.2.2.2 h.2.2.2.2.2.1 a1 a2 a3 a4
        have hc1 := keep9 (by omega) hc hwf k2 (by omega) k3
        generalize hI2 : va_up I1 10 (upd (I1 10) m (nI v)) = I2
        have f2 : ∀ x, x ≠ 10 → I2 x = I1 x := fun x hx => by rw [← hI2, va_up_ne _ _ hx]
        have hc2 : CH I2 D1 K n 9 (uN r (6 + m) v) := by rw [← hI2]; exact hc1.weight h9 hm8 v
        have t2 : ∀ x, x ≠ 162 → x ≠ 10 → x ≠ 0 → (x < 46 + 4 * ((o + c) % 24) ∨ 46 + 4 * ((o + c) % 24) + 2 < x) → thr I2 x = I x := fun x a b d e => by rw [thr_n a, f2 x b, k2 x e d]
        have hM2 : MH (thr I2 166) r := by rw [t2 166 (by decide) (by decide) (by decide) (by omega)]; exact hM
        have h9c : thr I2 162 9 = nI c := by rw [thr_s (by decide), f2 162 (by decide), k2 162 (by omega) (by decide)]; exact a5
        obtain ⟨J, b0, b1, b2', b3, b4, b5⟩ := m_keep (D := D1) (K := K) (n := n) (Z := Z) a2 h9c
        have hMJ : MH (J 166) r := by rw [b1 166 (by decide) (by decide)]; exact hM2
        have hwf2 : wf (uN r (6 + m) v) N := hwf.low (by omega)
        have hMJ2 : MH (va_up J 166 (upd (J 166) (6 + m) (nI v)) 166) (uN r (6 + m) v) := by rw [va_up_self]; exact hMJ.upd _ _
        refine ⟨nI (wsum (uN r (6 + m) v) (uN r (6 + m) v 1)), enc I2 D1 K n Z, va_up J 166 (upd (J 166) (6 + m) (nI v)), D1, K, n, ?_, ?_, ?_⟩
        · simp only [f_X11_bring, r0_3, bA_s, c9, c_lacksRoom h9 r18 hc.1.1, b2_s, if_pos hx, if_true, if_neg y1, if_pos y2, r9_0, lw, ez, if_pos hz, c0, k0, ast_n (s_H1 h9) m _ hm8 (show 8 < 2 ^ 31 by decide), hI2]
          simp only [Nat.reduceAdd, hI2, r0_3, bA_s, c9, c_woa h9 hc2 hwf2.le8.1, b2_s]
        · have hld : ald (enc (thr I2) D1 K n Z) 166 0 (nI (6 + m)) = some (nI (r (6 + m))) := by rw [← hM2 (6 + m) (by omega)]; exact ald_n s_166 (6 + m) (by omega) (by decide)
          simp only [f_X12_bring, p_thr, bA_s, c162, m_isRoom hM2 r18, b2_s, if_pos hx, if_neg one0, hin, if_pos hy, r162_5, e6, hld, el, if_pos (show r (6 + m) ≤ 0 by omega), b0, ast_n s_166 (6 + m) _ (show 6 + m < 54 by omega) (show 54 < 2 ^ 31 by decide), m_wof R166 hMJ2 hwf2.le8.1]
        · exact act_inv h hc hM hwf a1 a2 a6 k1 k2 k3 k4 k5 k6 k7 (fun x a b d => f2 x b) hc2 b1 b2' b3 b4 b5 (fun x hx => va_up_ne _ _ hx) hMJ2 (hwf2.mono (by omega))
      · refine ⟨-1000002, enc I D K n Z, _, D, K, n, ?_, ?_, h.thr⟩
        · simp only [f_X11_bring, r0_3, bA_s, c9, c_lacksRoom h9 r18 hc.1.1, b2_s, if_pos hx, if_true, if_neg y1, if_pos y2, r9_0, lw, ez, if_neg hz]
        · have hld : ald (enc (thr I) D K n Z) 166 0 (nI (6 + m)) = some (nI (r (6 + m))) := by rw [← hM' (6 + m) (by omega)]; exact ald_n s_166 (6 + m) (by omega) (by decide)
          simp only [f_X12_bring, p_thr, bA_s, c162, m_isRoom hM' r18, b2_s, if_pos hx, if_neg one0, hin, if_pos hy, r162_5, e6, hld, el, if_neg (show ¬ r (6 + m) ≤ 0 by omega)]
    · refine ⟨-1000001, enc I D K n Z, _, D, K, n, ?_, ?_, h.thr⟩
      · by_cases y1 : y < (1 : Int32)
        · simp only [f_X11_bring, r0_3, bA_s, c9, c_lacksRoom h9 r18 hc.1.1, b2_s, if_pos hx, if_true, if_pos y1]
        · have y1' := fa_of_nlt y1
          rw [fa_le, show (1 : Int32).toInt = 1 by decide] at y1'
          have y2 : ¬ y ≤ (20 : Int32) := by rw [fa_le, show (20 : Int32).toInt = 20 by decide]; omega
          simp only [f_X11_bring, r0_3, bA_s, c9, c_lacksRoom h9 r18 hc.1.1, b2_s, if_pos hx, if_true, if_neg y1, if_neg y2]
      · simp only [f_X12_bring, p_thr, bA_s, c162, m_isRoom hM' r18, b2_s, if_pos hx, if_neg one0, hin, if_neg hy, if_true]
  · refine ⟨-1000001, enc I D K n Z, _, D, K, n, ?_, ?_, h.thr⟩
    · simp only [f_X11_bring, r0_3, bA_s, c9, c_lacksRoom h9 r18 hc.1.1, b2_s, if_neg hx, if_neg one0]
    · simp only [f_X12_bring, p_thr, bA_s, c162, m_isRoom hM' r18, b2_s, if_neg hx, if_true]
end ActCalls
