/-! CALLS image, restore -/
section Images
variable {I : Nat → Nat → Int32} {D : Nat → Nat → Option Nat} {K : Nat → Nat} {n N : Nat} {Z : Nat → Cl} {r r' : Ro}
theorem in01 (h : Hp) (x : Int32) : f_X12_in h x.toInt64 (0 : Int64) (1 : Int64) = some (if 0 ≤ x.toInt ∧ x.toInt < 2 then 1 else 0, h) := by
  have := in02 h x 1 (by decide) (by decide)
  by_cases hx : 0 ≤ x.toInt ∧ x.toInt < 2
  · rw [if_pos (by omega)] at this; rw [if_pos hx]; exact this
  · rw [if_neg (by omega)] at this; rw [if_neg hx]; exact this
theorem not01 {x : Int32} (h : ¬ (0 ≤ x.toInt ∧ x.toInt < 2)) {α : Type} (a b : α) : (if x < 0 then a else if x < (2 : Int32) then b else a) = a := by
  by_cases h0 : x < 0
  · rw [if_pos h0]
  · have h0' := fa_of_nlt h0
    rw [fa_le, i32z] at h0'
    have h2 : ¬ x < (2 : Int32) := by rw [fa_lt, show (2 : Int32).toInt = 2 by decide]; omega
    rw [if_neg h0, if_neg h2]
set_option maxRecDepth 100000 in
set_option maxHeartbeats 4000000 in
theorem k_image (h : Inv I D K n N) (x : Int32) : GD Z N (enc I D K n Z) (fun h => f_X11_image h 0 x) (fun h => f_X12_image h 162 x) := by
  obtain ⟨r, hc, hM, hw⟩ := h.2.2.1
  obtain ⟨r18, r08⟩ := ho8 hw
  have hM' := thr_M (show 166 ≠ 162 by decide) hM
  by_cases hx : 0 ≤ x.toInt ∧ x.toInt < 2
  · obtain ⟨k, hk, rfl⟩ := (ix_in (x := x) (m := 2) (by decide)).mp hx
    have x0 : ¬ nI k < 0 := nI_pos (by omega)
    have x2 : nI k < (2 : Int32) := by rw [fa_lt, toInt_nI (by omega), show (2 : Int32).toInt = 2 by decide]; omega
    by_cases hz : r 1 = 0
    · refine ⟨-1000002, enc I D K n Z, _, D, K, n, ?_, ?_, h.thr⟩
      · simp only [f_X11_image, if_neg x0, if_pos x2, r0_3, bA_s, c9, c_stands9 h9 hc.1.1 r18, b2_s, if_pos hz, if_true]
      · simp only [f_X12_image, p_thr, bA_s, c162, in01, if_pos hx, if_neg one0, m_isThere hM' r18, b2_s, if_pos hz, if_true]
    · have hwf := st_wf hw hz
      have hH := isH_img hk
      obtain ⟨I2, D2, b1, b2', b3, b4, b5⟩ := c_become (I := I) (D := D) (K := K) (n := n) (Z := Z) hH h9 (by omega) h.2.2.2.2.2.2
      have hM2 : MH (thr I2 166) r := by rw [thr_n (by decide), b3 166 (by omega) (by omega) (by omega)]; exact hM
      obtain ⟨J, g1, g2, g3, g4⟩ := m_image_L (D := D2) (K := K) (n := n) (Z := Z) hk (fun y32 h31 => bA (gN h31 162 11 28) fun a34 => bA (ast h31 a34 1 (nI k) ((1 : Int32) &&& 1)) fun h35 => some ((1 : Int32), h35)) 54 2000 0 (thr I2) (by omega) (by omega)
      rw [show nI 0 = (0 : Int32) by decide] at g1
      generalize hJ2 : va_up J 174 (upd (J 174) k 1) = J2
      have f2 : ∀ x, x ≠ 174 → J2 x = J x := fun x hx => by rw [← hJ2, va_up_ne _ _ hx]
      have q3 : ∀ x, x ≠ 162 → x ≠ 174 → x ≠ 175 → J2 x = I2 x := fun x a b c => by rw [f2 x b, g2 x c, thr_n a]
      have q4 : ∀ x, x ≠ 162 → x ≠ 174 → x ≠ 175 → (x < 142 + 4 * k ∨ 142 + 4 * k + 2 < x) → J2 x = I x := fun x a b c d => by rw [q3 x a b c, b3 x (by omega) (by omega) (by omega)]
      have q162 : ∀ j, j ≠ 0 → J2 162 j = I 162 j := fun j a => by rw [f2 162 (by decide), g2 162 (by decide), thr_s a, b3 162 (by omega) (by omega) (by omega)]
      have t166 : thr I2 166 = I 166 := by rw [thr_n (by decide), b3 166 (by omega) (by omega) (by omega)]
      have t175 : thr I2 175 = I 175 := by rw [thr_n (by decide), b3 175 (by omega) (by omega) (by omega)]
      have q174 : J2 174 = upd (I 174) k 1 := by rw [← hJ2, va_up_self, g2 174 (by decide), thr_n (by decide), b3 174 (by omega) (by omega) (by omega)]
      have g : DK I K n J2 K n := DK.of (fun q hq => q4 q (by omega) (by omega) (by omega) (by omega))
      refine ⟨1, enc I2 D2 K n Z, J2, D2, K, n, ?_, ?_, ?_⟩
      · simp only [f_X11_image, if_neg x0, if_pos x2, r0_3, bA_s, c9, c_stands9 h9 hc.1.1 r18, b2_s, if_neg hz, if_neg one0, r0_8, aldn_e s_25 k hk (show 2 < 2 ^ 31 by decide), h.2.2.2.2.2.1.2.2.1 k hk, isC_e (s_H hH), b1]
      · simp only [f_X12_image, p_thr, bA_s, c162, in01, if_pos hx, if_neg one0, m_isThere hM2 r18, b2_s, if_neg hz, g1, r162_28, ast_n s_174 k _ hk (show 2 < 2 ^ 31 by decide)]
        rw [show (1 : Int32) &&& 1 = 1 by decide, hJ2]
      · obtain ⟨h1, ⟨h2, h3, h4, h5, h6⟩, h7, h8, h9', h10, h11⟩ := h
        refine ⟨h1.keep (fun x hx => q4 x (by omega) (by omega) (by omega) (by omega)), ⟨h2.keep (by rw [q4 2 (by omega) (by omega) (by omega) (by omega)]) (q4 3 (by omega) (by omega) (by omega) (by omega)) (q162 11 (by decide)) (q4 170 (by omega) (by omega) (by omega) (by omega)), ?_, ?_, h5.keep (by rw [q4 13 (by omega) (by omega) (by omega) (by omega)]) (q4 14 (by omega) (by omega) (by omega) (by omega)) (q162 27 (by decide)) (q4 173 (by omega) (by omega) (by omega) (by omega)), h6.keep (by rw [q4 26 (by omega) (by omega) (by omega) (by omega)]) (q4 27 (by omega) (by omega) (by omega) (by omega)) (q162 31 (by decide)) (q4 176 (by omega) (by omega) (by omega) (by omega))⟩, h7.keep (by omega) g (fun x a b => q4 x (by omega) (by omega) (by omega) (by omega)) (b4 12 (by omega)) (q4 166 (by omega) (by omega) (by omega) (by omega)), h8.keep (by omega) g (by rw [q4 0 (by omega) (by omega) (by omega) (by omega)]) (by rw [q4 0 (by omega) (by omega) (by omega) (by omega)]) (q162 9 (by decide)) (fun x a b => ⟨q4 x (by omega) (by omega) (by omega) (by omega), b4 x (by omega)⟩) (q4 169 (by omega) (by omega) (by omega) (by omega)), fun i hi => ?_, h10.keep (fun x hx => b4 x (by omega)), b5⟩
        · rw [q4 0 (by omega) (by omega) (by omega) (by omega), q162 18 (by decide)]; exact h3
        · rw [q4 0 (by omega) (by omega) (by omega) (by omega), q162 1 (by decide)]; exact h4
        · by_cases e : i = k
          · subst e
            right
            refine ⟨by rw [q174, pk_us], r, hwf.mono (by omega), hc.move r18 r08 ⟨fun j a b => ?_, fun j a => ?_, fun j a => ?_, fun j a => b2'.2.2.2 j a⟩ g, fun j hj => ?_⟩
            · rw [q3 _ (by omega) (by omega) (by omega)]; exact b2'.1 j a b
            · rw [q3 _ (by omega) (by omega) (by omega)]; exact b2'.2.1 j a
            · rw [q3 _ (by omega) (by omega) (by omega)]; exact b2'.2.2.1 j a
            · rw [f2 175 (by decide), g4 j (by omega) hj, t166]; exact hM j hj
          · rw [q174, pk_un e]
            rcases h9' i hi with ⟨w1, w2⟩ | ⟨w1, r2, w2, w3, w4⟩
            · left
              refine ⟨w1, ?_⟩
              rw [q4 (142 + 4 * i) (by omega) (by omega) (by omega) (by omega)]; exact w2
            · right
              refine ⟨w1, r2, w2.mono (by omega), w3.move w2.le8.1 w2.le8.2 (HF.self ?_ ?_ ?_ ?_) g, fun j hj => ?_⟩
              · exact q4 _ (by omega) (by omega) (by omega) (by omega)
              · exact q4 _ (by omega) (by omega) (by omega) (by omega)
              · exact q4 _ (by omega) (by omega) (by omega) (by omega)
              · exact b4 _ (by omega)
              · rw [f2 175 (by decide), g3 _ (by omega), t175]; exact w4 j hj
  · refine ⟨-1000001, enc I D K n Z, _, D, K, n, ?_, ?_, h.thr⟩
    · simp only [f_X11_image, not01 hx]
    · simp only [f_X12_image, p_thr, bA_s, in01, if_neg hx, b2_s, if_true]
set_option maxRecDepth 100000 in
set_option maxHeartbeats 4000000 in
theorem k_restore (h : Inv I D K n N) (x : Int32) : GD Z N (enc I D K n Z) (fun h => f_X11_restore h 0 x) (fun h => f_X12_restore h 162 x) := by
  by_cases hx : 0 ≤ x.toInt ∧ x.toInt < 2
  · obtain ⟨k, hk, rfl⟩ := (ix_in (x := x) (m := 2) (by decide)).mp hx
    have x0 : ¬ nI k < 0 := nI_pos (by omega)
    have x2 : nI k < (2 : Int32) := by rw [fa_lt, toInt_nI (by omega), show (2 : Int32).toInt = 2 by decide]; omega
    have hH := isH_img hk
    rcases h.2.2.2.2.1 k hk with ⟨w1, w2⟩ | ⟨w1, r, w2, w3, w4⟩
    · refine ⟨-1000002, enc I D K n Z, _, D, K, n, ?_, ?_, h.thr⟩
      · simp only [f_X11_restore, if_neg x0, if_pos x2, r0_8, bA_s, aldn_e s_25 k hk (show 2 < 2 ^ 31 by decide), h.2.2.2.2.2.1.2.2.1 k hk, isC_e (s_H hH), c_stands hH, w2, b2_s, if_pos (show nI 0 ≤ (0 : Int32) by decide), if_true]
      · simp only [f_X12_restore, p_thr, bA_s, in01, if_pos hx, if_neg one0, b2_s, r162_28, ald_n s_174 k hk (show 2 < 2 ^ 31 by decide), thr_n (show 174 ≠ 162 by decide), w1, if_true]
    · have hz : ¬ r 1 = 0 := by have := w2.1.1; omega
      obtain ⟨I2, D2, b1, b2', b3, b4, b5⟩ := c_become (I := I) (D := D) (K := K) (n := n) (Z := Z) h9 hH (by omega) h.2.2.2.2.2.2
      obtain ⟨o, c, a1, a2, a3, a4, a5, a6⟩ := h.2.2.2.1
      generalize hI3 : va_up I2 0 (upd (I2 0) 13 0) = I3
      have f3 : ∀ x, x ≠ 0 → I3 x = I2 x := fun x hx => by rw [← hI3, va_up_ne _ _ hx]
      have f30 : I3 0 = upd (I 0) 13 0 := by rw [← hI3, va_up_self, b3 0 (by decide) (by decide) (by decide)]
      have q2 : ∀ x, x ≠ 0 → x ≠ 9 → x ≠ 10 → x ≠ 11 → I3 x = I x := fun x a b d e => by rw [f3 x a, b3 x b d e]
      obtain ⟨J, g1, g2, g3, g4⟩ := m_restore_L (D := D2) (K := K) (n := n) (Z := Z) hk (fun y27 h26 => bA (pV h26 162 11 9 (.inl (0 : Int32))) fun h29 => some ((1 : Int32), h29)) 54 2000 0 (thr I3) (by omega) (by omega)
      rw [show nI 0 = (0 : Int32) by decide] at g1
      generalize hJ2 : va_up J 162 (upd (J 162) 9 0) = J2
      have f2 : ∀ x, x ≠ 162 → J2 x = J x := fun x hx => by rw [← hJ2, va_up_ne _ _ hx]
      have q3 : ∀ x, x ≠ 162 → x ≠ 166 → J2 x = I3 x := fun x a b => by rw [f2 x a, g2 x b, thr_n a]
      have q4 : ∀ x, x ≠ 162 → x ≠ 166 → x ≠ 0 → x ≠ 9 → x ≠ 10 → x ≠ 11 → J2 x = I x := fun x a b d e f g => by rw [q3 x a b, q2 x d e f g]
      have q162 : ∀ j, j ≠ 9 → j ≠ 0 → J2 162 j = I 162 j := fun j a b => by rw [← hJ2, va_up_self, pk_un a, g2 162 (by decide), thr_s b, q2 162 (by decide) (by decide) (by decide) (by decide)]
      have q9 : J2 162 9 = nI 0 := by rw [← hJ2, va_up_self, pk_us]; rfl
      have q0 : J2 0 = upd (I 0) 13 0 := by rw [q3 0 (by decide) (by decide), f30]
      have g : DK I K n J2 K n := DK.of (fun q hq => q4 q (by omega) (by omega) (by omega) (by omega) (by omega) (by omega))
      refine ⟨1, enc I3 D2 K n Z, J2, D2, K, n, ?_, ?_, ?_⟩
      · simp only [f_X11_restore, if_neg x0, if_pos x2, r0_8, bA_s, aldn_e s_25 k hk (show 2 < 2 ^ 31 by decide), h.2.2.2.2.2.1.2.2.1 k hk, isC_e (s_H hH), c_stands9 hH w3.1.1 w2.le8.1, b2_s, if_neg hz, if_neg one0, r0_3, c9, b1, c0, f_X11_forgetActs, p0_13, hI3]
      · simp only [f_X12_restore, p_thr, bA_s, in01, if_pos hx, if_neg one0, b2_s, r162_28, ald_n s_174 k hk (show 2 < 2 ^ 31 by decide), thr_n (show 174 ≠ 162 by decide), q2 174 (by decide) (by decide) (by decide) (by decide), w1, g1, p162_9, hJ2]
      · refine h.acted (by omega) ⟨fun x hx => q4 x (by omega) (by omega) (by omega) (by omega) (by omega) (by omega), ?_, ?_, fun j hj => q162 j (by omega) (by omega)⟩ (fun x hx => b4 x (by omega)) g b5 ?_ ?_ ⟨r, ?_, ?_, Or.inl (w2.mono (by omega))⟩ ⟨o, 0, a1, by omega, ?_, ?_, q9, fun i hi => absurd hi (Nat.not_lt_zero i)⟩
        · rw [q0, pk_un (by decide)]
        · rw [q4 2 (by decide) (by decide) (by decide) (by decide) (by decide) (by decide)]
        · rw [q0, pk_un (by decide), q162 1 (by decide) (by decide)]; exact h.2.1.2.2.1
        · refine h.2.1.2.2.2.1.keep ?_ ?_ (q162 27 (by decide) (by decide)) ?_
          · rw [q4 13 (by decide) (by decide) (by decide) (by decide) (by decide) (by decide)]
          · exact q4 14 (by decide) (by decide) (by decide) (by decide) (by decide) (by decide)
          · exact q4 173 (by decide) (by decide) (by decide) (by decide) (by decide) (by decide)
        · refine w3.move w2.le8.1 w2.le8.2 ⟨fun j a b => ?_, fun j a => ?_, fun j a => ?_, fun j a => b2'.2.2.2 j a⟩ g
          · rw [q3 9 (by decide) (by decide), f3 9 (by decide)]; exact b2'.1 j a b
          · rw [q3 (9 + 1) (by decide) (by decide), f3 (9 + 1) (by decide)]; exact b2'.2.1 j a
          · rw [q3 (9 + 2) (by decide) (by decide), f3 (9 + 2) (by decide)]; exact b2'.2.2.1 j a
        · intro j hj
          rw [f2 166 (by decide), g4 j (by omega) hj, thr_n (by decide), q2 175 (by decide) (by decide) (by decide) (by decide)]; exact w4 j hj
        · rw [q0, pk_un (by decide)]; exact a3
        · rw [q0, pk_us]; rfl
  · refine ⟨-1000001, enc I D K n Z, _, D, K, n, ?_, ?_, h.thr⟩
    · simp only [f_X11_restore, not01 hx]
    · simp only [f_X12_restore, p_thr, bA_s, in01, if_neg hx, b2_s, if_true]
end Images
