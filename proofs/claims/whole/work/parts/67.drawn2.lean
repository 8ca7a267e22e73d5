section Drawn2
variable {I : Nat → Nat → Int32} {D : Nat → Nat → Option Nat} {K : Nat → Nat} {n N : Nat} {Z : Nat → Cl} {r : Ro}
theorem k_drawn_b (h : Inv I D K n N) (hc : CH I D K n 9 r) (hM : MH (I 166) r) (r18 : r 1 ≤ 8) (hz : ¬ r 1 = 0) (x y w : Int32) (hb : ¬ (((0 : Int) ≤ x.toInt ∧ x.toInt ≤ (60 : Nat)) ∧ (((1 : Nat) : Int) ≤ y.toInt ∧ y.toInt ≤ (999999 : Nat)) ∧ ((0 : Int) ≤ w.toInt ∧ w.toInt ≤ (1 : Nat)))) : GD Z N (enc I D K n Z) (fun h => f_X11_drawn h 0 x y w) (fun h => f_X12_drawn h 162 x y w) := by
  have hM' := thr_M (show 166 ≠ 162 by decide) hM
  have hi1 : ∀ h : Hp, f_X12_in h x.toInt64 (0 : Int64) (60 : Int64) = some (if (0 : Int) ≤ x.toInt ∧ x.toInt ≤ (60 : Nat) then 1 else 0, h) := fun h => in02 h x 60 (by decide) (by decide)
  have hi2 : ∀ h : Hp, f_X12_in h y.toInt64 (1 : Int64) (999999 : Int64) = some (if ((1 : Nat) : Int) ≤ y.toInt ∧ y.toInt ≤ (999999 : Nat) then 1 else 0, h) := fun h => m_inL h y 1 999999 (by decide) (by decide)
  have hi3 : ∀ h : Hp, f_X12_in h w.toInt64 (0 : Int64) (1 : Int64) = some (if (0 : Int) ≤ w.toInt ∧ w.toInt ≤ (1 : Nat) then 1 else 0, h) := fun h => in02 h w 1 (by decide) (by decide)
  refine ⟨-1000001, enc I D K n Z, _, D, K, n, ?_, ?_, h.thr⟩
  · by_cases h1 : (0 : Int) ≤ x.toInt ∧ x.toInt ≤ (60 : Nat)
    · obtain ⟨a1, a2⟩ := yesUb (show 60 < 2 ^ 31 by decide) h1
      have a2 : ¬ (60 : Int32) < x := a2
      by_cases h2 : ((1 : Nat) : Int) ≤ y.toInt ∧ y.toInt ≤ (999999 : Nat)
      · have b1 : ¬ y < (1 : Int32) := by rw [fa_lt, show (1 : Int32).toInt = 1 by decide]; omega
        have b2' : ¬ (999999 : Int32) < y := by rw [fa_lt, show (999999 : Int32).toInt = 999999 by decide]; omega
        have h3 : ¬ ((0 : Int) ≤ w.toInt ∧ w.toInt ≤ (1 : Nat)) := fun q => hb ⟨h1, h2, q⟩
        have e : ∀ (a c : Option (Int32 × Hp)), (if w < 0 then a else if w ≤ (1 : Int32) then c else a) = a := not0b (show 1 < 2 ^ 31 by decide) h3
        simp only [f_X11_drawn, r0_3, bA_s, c9, c_stands9 h9 hc.1.1 r18, b2_s, if_neg hz, if_neg one0, if_neg a1, if_neg a2, if_neg b1, if_neg b2', e]
      · by_cases b1 : y < (1 : Int32)
        · simp only [f_X11_drawn, r0_3, bA_s, c9, c_stands9 h9 hc.1.1 r18, b2_s, if_neg hz, if_neg one0, if_neg a1, if_neg a2, if_pos b1]
        · have b2' : (999999 : Int32) < y := by
            rw [fa_lt, show (1 : Int32).toInt = 1 by decide] at b1
            rw [fa_lt, show (999999 : Int32).toInt = 999999 by decide]; omega
          simp only [f_X11_drawn, r0_3, bA_s, c9, c_stands9 h9 hc.1.1 r18, b2_s, if_neg hz, if_neg one0, if_neg a1, if_neg a2, if_neg b1, if_pos b2']
    · have e : ∀ (a c : Option (Int32 × Hp)), (if x < 0 then a else if (60 : Int32) < x then a else c) = a := notUb (show 60 < 2 ^ 31 by decide) h1
      simp only [f_X11_drawn, r0_3, bA_s, c9, c_stands9 h9 hc.1.1 r18, b2_s, if_neg hz, if_neg one0, e]
  · by_cases h1 : (0 : Int) ≤ x.toInt ∧ x.toInt ≤ (60 : Nat)
    · by_cases h2 : ((1 : Nat) : Int) ≤ y.toInt ∧ y.toInt ≤ (999999 : Nat)
      · have h3 : ¬ ((0 : Int) ≤ w.toInt ∧ w.toInt ≤ (1 : Nat)) := fun q => hb ⟨h1, h2, q⟩
        simp only [f_X12_drawn, p_thr, bA_s, c162, m_isThere hM' r18, b2_s, if_neg hz, if_neg one0, hi1, if_pos h1, hi2, if_pos h2, hi3, if_neg h3, if_true]
      · simp only [f_X12_drawn, p_thr, bA_s, c162, m_isThere hM' r18, b2_s, if_neg hz, if_neg one0, hi1, if_pos h1, hi2, if_neg h2, if_true]
    · simp only [f_X12_drawn, p_thr, bA_s, c162, m_isThere hM' r18, b2_s, if_neg hz, if_neg one0, hi1, if_neg h1, if_true]
theorem k_drawn (h : Inv I D K n N) (hN : N ≤ 1900) (x y w : Int32) : GD Z N (enc I D K n Z) (fun h => f_X11_drawn h 0 x y w) (fun h => f_X12_drawn h 162 x y w) := by
  obtain ⟨r, hc, hM, hw⟩ := h.2.2.1
  obtain ⟨r18, r08⟩ := ho8 hw
  have hM' := thr_M (show 166 ≠ 162 by decide) hM
  by_cases hz : r 1 = 0
  · refine ⟨-1000002, enc I D K n Z, _, D, K, n, ?_, ?_, h.thr⟩
    · simp only [f_X11_drawn, r0_3, bA_s, c9, c_stands9 h9 hc.1.1 r18, b2_s, if_pos hz, if_true]
    · simp only [f_X12_drawn, p_thr, bA_s, c162, m_isThere hM' r18, b2_s, if_pos hz, if_true]
  · have hwf := st_wf hw hz
    by_cases hb : ((0 : Int) ≤ x.toInt ∧ x.toInt ≤ (60 : Nat)) ∧ (((1 : Nat) : Int) ≤ y.toInt ∧ y.toInt ≤ (999999 : Nat)) ∧ ((0 : Int) ≤ w.toInt ∧ w.toInt ≤ (1 : Nat))
    · obtain ⟨h1, h2, h3⟩ := hb
      have hi1 : ∀ h : Hp, f_X12_in h x.toInt64 (0 : Int64) (60 : Int64) = some (if (0 : Int) ≤ x.toInt ∧ x.toInt ≤ (60 : Nat) then 1 else 0, h) := fun h => in02 h x 60 (by decide) (by decide)
      have hi2 : ∀ h : Hp, f_X12_in h y.toInt64 (1 : Int64) (999999 : Int64) = some (if ((1 : Nat) : Int) ≤ y.toInt ∧ y.toInt ≤ (999999 : Nat) then 1 else 0, h) := fun h => m_inL h y 1 999999 (by decide) (by decide)
      have hi3 : ∀ h : Hp, f_X12_in h w.toInt64 (0 : Int64) (1 : Int64) = some (if (0 : Int) ≤ w.toInt ∧ w.toInt ≤ (1 : Nat) then 1 else 0, h) := fun h => in02 h w 1 (by decide) (by decide)
      obtain ⟨a1, a2⟩ := yesUb (show 60 < 2 ^ 31 by decide) h1
      have a2 : ¬ (60 : Int32) < x := a2
      have b1 : ¬ y < (1 : Int32) := by rw [fa_lt, show (1 : Int32).toInt = 1 by decide]; omega
      have b2' : ¬ (999999 : Int32) < y := by rw [fa_lt, show (999999 : Int32).toInt = 999999 by decide]; omega
      obtain ⟨w0, w1⟩ := yes0b (show 1 < 2 ^ 31 by decide) h3
      have w1 : w ≤ (1 : Int32) := w1
      obtain ⟨nn, hn, rfl⟩ := (ix_in (x := x) (m := 61) (by decide)).mp ⟨h1.1, by omega⟩
      obtain ⟨s, hs, rfl⟩ := (ix_in (x := y) (m := 1000000) (by decide)).mp ⟨by omega, by omega⟩
      have es : (nI s).toInt64 = lN s := nI_l (by omega)
      obtain ⟨I1, D1, d1, d2, d3, d4⟩ := c_bd (I := I) (D := D) (K := K) (n := n) (Z := Z) h.2.2.2.2.2.2 hc hwf.le8.1 hwf.le8.2
      obtain ⟨I2, u1, u2, k1, k2⟩ := c_dn_L (D := D1) (K := K) (n := n) (Z := Z) (fun y56 y57 y58 y59 h55 => bA (if w = 0 then some y56 else some y57) fun j61 => some (j61, h55)) (nI s) w (show nn ≤ 60 by omega) nn 2000 0 r N s 0 0 I1 (by omega) (by omega) (by omega) d2 hwf (by omega)
      have fw : FW I D I2 D1 := d3.fw.tr k2
      have e166 : thr I2 166 = I 166 := by rw [thr_n (by decide), fw.1 166 (by omega) (by omega) (by omega)]
      have hM1 : MH (thr I2 166) r := by rw [e166]; exact hM
      obtain ⟨J2, e1, e2, e3⟩ := m_ld (D := D1) (K := K) (n := n) (Z := Z) hM1
      obtain ⟨J, v1, v2, g1, g2⟩ := m_drw_L (D := D1) (K := K) (n := n) (Z := Z) (fun y105 y106 y107 y108 h104 => bA (if w = 0 then some y106 else some y107) fun j110 => some (j110, h104)) (nI s) w (show nn ≤ 60 by omega) nn 2000 0 r N s 0 0 J2 (by omega) (by omega) (by omega) e2 hwf (by omega)
      rw [show nI 0 = (0 : Int32) by decide] at k1 g1
      have ans : ∀ (a b : Int32) (h : Hp), (bA (if w = 0 then some a else some b) fun j => some (j, h)) = some (if w = 0 then a else b, h) := by
        intro a b h
        by_cases q : w = 0
        · rw [if_pos q, if_pos q, bA_s]
        · rw [if_neg q, if_neg q, bA_s]
      rw [ans] at k1 g1
      refine ⟨if w = 0 then nI (dnL nn r s 0 0).1 else nI (dnL nn r s 0 0).2, enc I2 D1 K n Z, J, D1, K, n, ?_, ?_, h.seen fw d4 (FM.thr.trans ((FM.lay e3).trans g2.1)) (by rw [g2.2, e3 162 (by decide), thr_s (by decide), fw.1 162 (by omega) (by omega) (by omega)])⟩
      · simp only [f_X11_drawn, r0_3, bA_s, c9, c_stands9 h9 hc.1.1 r18, b2_s, if_neg hz, if_neg one0, if_neg a1, if_neg a2, if_neg b1, if_neg b2', if_neg w0, if_pos w1, r0_6, c17, d1, es]
        exact k1
      · simp only [f_X12_drawn, p_thr, bA_s, c162, m_isThere hM1 r18, b2_s, if_neg hz, if_neg one0, hi1, if_pos h1, hi2, if_pos h2, hi3, if_pos h3, e1]
        rw [es]
        exact g1
    · exact k_drawn_b h hc hM r18 hz x y w hb
end Drawn2
