/-! THE CALL would -/
section Would
variable {I : Nat → Nat → Int32} {D : Nat → Nat → Option Nat} {K : Nat → Nat} {n N : Nat} {Z : Nat → Cl} {r : Ro}
/-- a number within 0 .. b, as class and reference look at it -/
theorem not0b {x : Int32} {b : Nat} (hb : b < 2 ^ 31) (h : ¬ ((0 : Int) ≤ x.toInt ∧ x.toInt ≤ b)) {α : Type} (a c : α) : (if x < 0 then a else if x ≤ nI b then c else a) = a := by
  by_cases h0 : x < 0
  · rw [if_pos h0]
  · have h0' := fa_of_nlt h0
    rw [fa_le, i32z] at h0'
    have h2 : ¬ x ≤ nI b := by rw [fa_le, toInt_nI hb]; omega
    rw [if_neg h0, if_neg h2]
theorem yes0b {x : Int32} {b : Nat} (hb : b < 2 ^ 31) (h : (0 : Int) ≤ x.toInt ∧ x.toInt ≤ b) : ¬ x < 0 ∧ x ≤ nI b := by
  refine ⟨?_, ?_⟩
  · rw [fa_lt, i32z]; omega
  · rw [fa_le, toInt_nI hb]; omega
set_option maxRecDepth 100000 in
set_option maxHeartbeats 8000000 in
theorem k_would_s (h : Inv I D K n N) (hc : CH I D K n 9 r) (hM : MH (I 166) r) (r18 : r 1 ≤ 8) (hz : r 1 = 0) (x y z w : Int32) : GD Z N (enc I D K n Z) (fun h => f_X11_would h 0 x y z w) (fun h => f_X12_would h 162 x y z w) := by
  have hM' := thr_M (show 166 ≠ 162 by decide) hM
  refine ⟨-1000002, enc I D K n Z, _, D, K, n, ?_, ?_, h.thr⟩
  · simp only [f_X11_would, r0_3, bA_s, c9, c_stands9 h9 hc.1.1 r18, b2_s, if_pos hz, if_true]
  · simp only [f_X12_would, p_thr, bA_s, c162, m_isThere hM' r18, b2_s, if_pos hz, if_true]
set_option maxRecDepth 100000 in
set_option maxHeartbeats 8000000 in
theorem k_would_b (h : Inv I D K n N) (hc : CH I D K n 9 r) (hM : MH (I 166) r) (r18 : r 1 ≤ 8) (hz : ¬ r 1 = 0) (x y z w : Int32) (hb : ¬ (((0 ≤ x.toInt ∧ x.toInt < 8) ∧ (0 ≤ z.toInt ∧ z.toInt ≤ 8)) ∧ ((0 : Int) ≤ w.toInt ∧ w.toInt ≤ (4 : Nat)))) : GD Z N (enc I D K n Z) (fun h => f_X11_would h 0 x y z w) (fun h => f_X12_would h 162 x y z w) := by
  have hM' := thr_M (show 166 ≠ 162 by decide) hM
  have hin : ∀ h : Hp, f_X12_in h w.toInt64 (0 : Int64) (4 : Int64) = some (if (0 : Int) ≤ w.toInt ∧ w.toInt ≤ (4 : Nat) then 1 else 0, h) := fun h => in02 h w 4 (by decide) (by decide)
  refine ⟨-1000001, enc I D K n Z, _, D, K, n, ?_, ?_, h.thr⟩
  · by_cases hb1 : (0 ≤ x.toInt ∧ x.toInt < 8) ∧ (0 ≤ z.toInt ∧ z.toInt ≤ 8)
    · simp only [f_X11_would, r0_3, bA_s, c9, c_stands9 h9 hc.1.1 r18, b2_s, if_neg hz, if_neg one0, c_bad, if_pos hb1, if_true, show (4 : Int32) = nI 4 from rfl, not0b (show 4 < 2 ^ 31 by decide) (fun q => hb ⟨hb1, q⟩)]
    · simp only [f_X11_would, r0_3, bA_s, c9, c_stands9 h9 hc.1.1 r18, b2_s, if_neg hz, if_neg one0, c_bad, if_neg hb1]
  · by_cases hb1 : (0 ≤ x.toInt ∧ x.toInt < 8) ∧ (0 ≤ z.toInt ∧ z.toInt ≤ 8)
    · simp only [f_X12_would, p_thr, bA_s, c162, m_isThere hM' r18, b2_s, if_neg hz, if_neg one0, m_isErrand, if_pos hb1, hin, if_neg (fun q => hb ⟨hb1, q⟩), if_true]
    · simp only [f_X12_would, p_thr, bA_s, c162, m_isThere hM' r18, b2_s, if_neg hz, if_neg one0, m_isErrand, if_neg hb1, if_true]
set_option maxRecDepth 100000 in
set_option maxHeartbeats 8000000 in
theorem k_would_l (h : Inv I D K n N) (hc : CH I D K n 9 r) (hM : MH (I 166) r) (r18 : r 1 ≤ 8) (hz : ¬ r 1 = 0) (x y z w v V : Int32) (hb : (0 ≤ x.toInt ∧ x.toInt < 8) ∧ (0 ≤ z.toInt ∧ z.toInt ≤ 8)) (hw : (0 : Int) ≤ w.toInt ∧ w.toInt ≤ (4 : Nat)) (hv : ¬ v = 0) (hV : ¬ V = 0) (l1 : f_X11_lackOfRoute (enc I D K n Z) 0 x y z = some (v, enc I D K n Z)) (lF : f_X11_found (enc I D K n Z) 0 v = some (V, enc (va_up I 0 (upd (I 0) 15 v)) D K n Z)) (l2 : f_X12_rowFound (enc (thr (va_up I 0 (upd (I 0) 15 v))) D K n Z) 162 x y z = some (V, enc (stI I v) D K n Z)) : GD Z N (enc I D K n Z) (fun h => f_X11_would h 0 x y z w) (fun h => f_X12_would h 162 x y z w) := by
  have hM2 : MH (thr (va_up I 0 (upd (I 0) 15 v)) 166) r := by rw [thr_n (by decide), va_up_ne _ _ (by decide)]; exact hM
  have hin : ∀ h : Hp, f_X12_in h w.toInt64 (0 : Int64) (4 : Int64) = some (if (0 : Int) ≤ w.toInt ∧ w.toInt ≤ (4 : Nat) then 1 else 0, h) := fun h => in02 h w 4 (by decide) (by decide)
  obtain ⟨w0, w4⟩ := yes0b (show 4 < 2 ^ 31 by decide) hw
  refine ⟨V, enc (va_up I 0 (upd (I 0) 15 v)) D K n Z, stI I v, D, K, n, ?_, ?_, h.told v⟩
  · simp only [f_X11_would, r0_3, bA_s, c9, c_stands9 h9 hc.1.1 r18, b2_s, if_neg hz, if_neg one0, c_bad, if_pos hb, if_true, if_neg w0, show (4 : Int32) = nI 4 from rfl, if_pos w4, c0, l1, if_neg hv, lF]
  · simp only [f_X12_would, p_thr, bA_s, c162, m_isThere hM2 r18, b2_s, if_neg hz, if_neg one0, m_isErrand, if_pos hb, hin, if_pos hw, l2, if_neg hV]
/-- the reference, once its row is found: ready to dream -/
theorem found_m {k c i : Nat} {I1 : Nat → Nat → Int32} {D1 : Nat → Nat → Option Nat} (hM : MH (I 166) r) (f : ∀ x, (x < 16 ∨ 23 < x) → x ≠ 0 → I1 x = I x) (l2 : ∀ (J : Nat → Nat → Int32) (E : Nat → Nat → Option Nat) (L : Nat → Nat) (p : Nat), J 163 = I 163 → J 164 = I 164 → J 165 = I 165 → ∃ J', f_X12_rowFound (enc J E L p Z) 162 (nI k) (nI i) (nI c) = some (0, enc J' E L p Z) ∧ (∀ y, y ≠ 162 → y ≠ 171 → J' y = J y) ∧ J' 162 = upd (J 162) 1 0 ∧ (∀ t, t < c → J' 171 t = I (31 + 2 * k) (i + t))) : ∃ J, f_X12_rowFound (enc (thr I1) D1 K n Z) 162 (nI k) (nI i) (nI c) = some (0, enc J D1 K n Z) ∧ FM I1 J ∧ J 162 1 = 0 ∧ MH (J 166) r ∧ MH (thr I1 166) r ∧ itm (J 171) 0 c = itm (I (31 + 2 * k)) i c := by
  have t : ∀ x, x ≠ 162 → (x < 16 ∨ 23 < x) → x ≠ 0 → thr I1 x = I x := fun x a b d => by rw [thr_n a, f x b d]
  obtain ⟨J, m1, m2, m3, m4⟩ := l2 (thr I1) D1 K n (t 163 (by decide) (by omega) (by decide)) (t 164 (by decide) (by omega) (by decide)) (t 165 (by decide) (by omega) (by decide))
  have e166 : thr I1 166 = I 166 := t 166 (by decide) (by omega) (by decide)
  refine ⟨J, m1, ⟨fun x a b d e => by rw [m2 x a d, thr_n a], fun j a b d => by rw [m3, pk_un b, thr_s a]⟩, by rw [m3, pk_us], ?_, by rw [e166]; exact hM, itm_eq c 0 i (fun t ht => by rw [Nat.zero_add, m4 t ht])⟩
  rw [m2 166 (by decide) (by decide), e166]; exact hM
set_option maxRecDepth 100000 in
set_option maxHeartbeats 8000000 in
theorem k_would (h : Inv I D K n N) (hN : N ≤ 2000) (x y z w : Int32) : GD Z N (enc I D K n Z) (fun h => f_X11_would h 0 x y z w) (fun h => f_X12_would h 162 x y z w) := by
  obtain ⟨r, hc, hM, hw⟩ := h.2.2.1
  obtain ⟨r18, r08⟩ := ho8 hw
  by_cases hz : r 1 = 0
  · exact k_would_s h hc hM r18 hz x y z w
  · have hwf := st_wf hw hz
    by_cases hb : ((0 ≤ x.toInt ∧ x.toInt < 8) ∧ (0 ≤ z.toInt ∧ z.toInt ≤ 8)) ∧ ((0 : Int) ≤ w.toInt ∧ w.toInt ≤ (4 : Nat))
    · obtain ⟨hb, hww⟩ := hb
      obtain ⟨k, hk, rfl⟩ := (ix_in (x := x) (m := 8) (by decide)).mp hb.1
      obtain ⟨c, hc0, rfl⟩ := (ix_in (x := z) (m := 9) (by decide)).mp ⟨hb.2.1, by omega⟩
      rcases route (K := K) (n := n) (Z := Z) h.1 h.2.2.2.2.2.1.1 hk (show c ≤ 8 by omega) y with ⟨f, f0, f3, l1, l2⟩ | ⟨i, rfl, hi, l1, l2⟩
      · have ef : (nI f = (0 : Int32)) = (f = 0) := z_eq (by omega) (by decide)
        have l2' := l2 (thr (va_up I 0 (upd (I 0) 15 (nI f)))) D K n (by rw [thr_n (by decide), va_up_ne _ _ (by decide)]) (by rw [thr_n (by decide), va_up_ne _ _ (by decide)])
        rw [told_eq] at l2'
        exact k_would_l h hc hM r18 hz (nI k) y (nI c) w (nI f) _ hb hww (by rw [ef]; exact f0) (fne f0 f3) l1 (f_found _) l2'
      · obtain ⟨I1, D1, a1, a2, a3, a4⟩ := c_foretell (I := I) (D := D) (Z := Z) (s_R1 hk) (by decide) (show 23 < 31 + 2 * k by omega) h.2.2.2.2.2.2 hc hwf hN hi (show c ≤ 8 by omega)
        have hgf : (wGo r (itm (I (31 + 2 * k)) i c)).2.1 < 2 ^ 31 := wGo_f _
        generalize hI2 : va_up I1 0 (upd (I1 0) 15 0) = I2
        obtain ⟨J, m1, m2, m3, m4, m5, m6⟩ := found_m (K := K) (n := n) (I1 := I2) (D1 := D1) hM (fun x a b => by rw [← hI2, va_up_ne _ _ b, a3.1 x a]) l2
        obtain ⟨J2, e1, e2, e3⟩ := m_ld (D := D1) (K := K) (n := n) (Z := Z) m4
        obtain ⟨J3, d1, d2, d3, d4, d5, d6⟩ := m_gd (D := D1) (K := K) (n := n) (Z := Z) e2 hwf hN (show c ≤ 8 by omega)
        rw [e3 171 (by decide), m6] at d1 d2 d3
        generalize hg : wGo r (itm (I (31 + 2 * k)) i c) = g at a2 hgf d1 d2 d3
        have hout := c_outcome (D := D1) (K := K) (n := n) (Z := Z) a2 hgf
        have mout := m_outcome hgf
        obtain ⟨w3, w5, w6, w7, w8, w9, w10, wl⟩ := a2
        obtain ⟨⟨v21, v22, v23, v24, v25⟩, v172⟩ := d3
        obtain ⟨w0, w4⟩ := yes0b (show 4 < 2 ^ 31 by decide) hww
        have hin : ∀ h : Hp, f_X12_in h w.toInt64 (0 : Int64) (4 : Int64) = some (if (0 : Int) ≤ w.toInt ∧ w.toInt ≤ (4 : Nat) then 1 else 0, h) := fun h => in02 h w 4 (by decide) (by decide)
        have hinv : Inv J3 D1 K n (N + 1) := h.dream (I' := I1) a3 a4 (s := 0) (by rw [hI2]; exact m2.trans ((FM.lay e3).trans d4)) (by rw [d6, e3 162 (by decide)]; exact m3)
        have ec : f_X11_would (enc I D K n Z) 0 (nI k) (nI i) (nI c) w = some (if w = (0 : Int32) then nI (outN g) else if w = (1 : Int32) then nI g.1.2.2.1 else if w = (2 : Int32) then nI g.1.2.2.2.1 else if w = (3 : Int32) then nI g.1.2.2.2.2.1.length else nI g.1.2.1, enc I2 D1 K n Z) := by
          simp only [f_X11_would, r0_3, bA_s, c9, c_stands9 h9 hc.1.1 r18, b2_s, if_neg hz, if_neg one0, c_bad, if_pos hb, if_true, if_neg w0, show (4 : Int32) = nI 4 from rfl, if_pos w4, c0, l1, r0_0, aldn_e s_1 k hk (show 8 < 2 ^ 31 by decide), h.2.2.2.2.2.1.1 k hk, gN_e (s_R hk) 0 rfl, a1]
          by_cases t0 : w = (0 : Int32)
          · simp only [if_pos t0, r0_5, bA_s, c16, hout, b2_s, c0, f_X11_well, p0_15, hI2]
          · by_cases t1 : w = (1 : Int32)
            · simp only [if_neg t0, if_pos t1, r0_5, bA_s, g16_6, w6, b2_s, c0, f_X11_well, p0_15, hI2]
            · by_cases t2 : w = (2 : Int32)
              · simp only [if_neg t0, if_neg t1, if_pos t2, r0_5, bA_s, g16_7, w7, b2_s, c0, f_X11_well, p0_15, hI2]
              · by_cases t3 : w = (3 : Int32)
                · simp only [if_neg t0, if_neg t1, if_neg t2, if_pos t3, r0_5, bA_s, g16_3, w3, b2_s, c0, f_X11_well, p0_15, hI2]
                · simp only [if_neg t0, if_neg t1, if_neg t2, if_neg t3, r0_5, bA_s, g16_5, w5, b2_s, c0, f_X11_well, p0_15, hI2]
        have em : f_X12_would (enc I2 D1 K n Z) 162 (nI k) (nI i) (nI c) w = some (if w = (0 : Int32) then nI (outN g) else if w = (1 : Int32) then nI g.1.2.2.1 else if w = (2 : Int32) then nI g.1.2.2.2.1 else if w = (3 : Int32) then nI g.1.2.2.2.2.1.length else nI g.1.2.1, enc J3 D1 K n Z) := by
          simp only [f_X12_would, p_thr, bA_s, c162, m_isThere m5 r18, b2_s, if_neg hz, if_neg one0, m_isErrand, if_pos hb, hin, if_pos hww, m1, if_true, e1, r162_7, d1]
          by_cases t0 : w = (0 : Int32)
          · simp only [if_pos t0, g162_25, bA_s, v25]
            rw [show (if nI g.2.1 = (0 : Int32) then some (nI g.2.2) else some ((1000 : Int32) + nI g.2.1)) = some (nI (outN g)) from mout]
            rfl
          · by_cases t1 : w = (1 : Int32)
            · simp only [if_neg t0, if_pos t1, g162_22, bA_s, v22]
            · by_cases t2 : w = (2 : Int32)
              · simp only [if_neg t0, if_neg t1, if_pos t2, g162_23, bA_s, v23]
              · by_cases t3 : w = (3 : Int32)
                · simp only [if_neg t0, if_neg t1, if_neg t2, if_pos t3, g162_21, bA_s, v21]
                · simp only [if_neg t0, if_neg t1, if_neg t2, if_neg t3, g162_24, bA_s, v24]
        exact ⟨_, enc I2 D1 K n Z, J3, D1, K, n, ec, em, hinv⟩
    · exact k_would_b h hc hM r18 hz x y z w hb
end Would
