section Errand2
variable {I : Nat → Nat → Int32} {D : Nat → Nat → Option Nat} {K : Nat → Nat} {n N : Nat} {Z : Nat → Cl} {r : Ro}
theorem isW8 : isW 8 := by simp [isW]
theorem isW16 : isW 16 := by simp [isW]
/-- a finding that both tell -/
theorem told_eq (f : Int32) : va_up (thr (va_up I 0 (upd (I 0) 15 f))) 162 (upd (thr (va_up I 0 (upd (I 0) 15 f)) 162) 1 f) = stI I f := by
  unfold thr stI
  rw [bx_uu, va_up_self, va_up_ne _ _ (show 162 ≠ 0 by decide)]
theorem fne1 : ¬ (-1000010 - nI 1 : Int32) = 0 := by decide
theorem fne2 : ¬ (-1000010 - nI 2 : Int32) = 0 := by decide
theorem fne {f : Nat} (h0 : f ≠ 0) (h3 : f < 3) : ¬ (-1000010 - nI f : Int32) = 0 := by
  rcases (show f = 1 ∨ f = 2 by omega) with e | e
  · rw [e]; exact fne1
  · rw [e]; exact fne2
theorem e_val {α : Type} {c : Prop} [hd : Decidable c] (a b : α) (x : α → Option Hp) (h : c) : (if c then x a else x b) = x a := if_pos h
set_option maxRecDepth 100000 in
set_option maxHeartbeats 8000000 in
theorem k_errand_s (h : Inv I D K n N) {r : Ro} (hc : CH I D K n 9 r) (hM : MH (I 166) r) (r18 : r 1 ≤ 8) (hz : r 1 = 0) (x y z : Int32) : GD Z N (enc I D K n Z) (fun h => f_X11_errand h 0 x y z) (fun h => f_X12_errand h 162 x y z) := by
  have hM' := thr_M (show 166 ≠ 162 by decide) hM
  refine ⟨-1000002, enc I D K n Z, _, D, K, n, ?_, ?_, h.thr⟩
  · simp only [f_X11_errand, r0_3, bA_s, c9, c_stands9 h9 hc.1.1 r18, b2_s, if_pos hz, if_true]
  · simp only [f_X12_errand, p_thr, bA_s, c162, m_isThere hM' r18, b2_s, if_pos hz, if_true]
set_option maxRecDepth 100000 in
set_option maxHeartbeats 8000000 in
theorem k_errand_b (h : Inv I D K n N) {r : Ro} (hc : CH I D K n 9 r) (hM : MH (I 166) r) (r18 : r 1 ≤ 8) (hz : ¬ r 1 = 0) (x y z : Int32) (hb : ¬ ((0 ≤ x.toInt ∧ x.toInt < 8) ∧ (0 ≤ z.toInt ∧ z.toInt ≤ 8))) : GD Z N (enc I D K n Z) (fun h => f_X11_errand h 0 x y z) (fun h => f_X12_errand h 162 x y z) := by
  have hM' := thr_M (show 166 ≠ 162 by decide) hM
  refine ⟨-1000001, enc I D K n Z, _, D, K, n, ?_, ?_, h.thr⟩
  · simp only [f_X11_errand, r0_3, bA_s, c9, c_stands9 h9 hc.1.1 r18, b2_s, if_neg hz, if_neg one0, c_bad, if_neg hb]
  · simp only [f_X12_errand, p_thr, bA_s, c162, m_isThere hM' r18, b2_s, if_neg hz, if_neg one0, m_isErrand, if_neg hb, if_true]
theorem f_found (x : Int32) : f_X11_found (enc I D K n Z) 0 x = some (-1000010 - x, enc (va_up I 0 (upd (I 0) 15 x)) D K n Z) := by
  simp only [f_X11_found, p0_15, bA_s]
set_option maxRecDepth 100000 in
set_option maxHeartbeats 8000000 in
theorem k_errand_l (h : Inv I D K n N) {r : Ro} (hc : CH I D K n 9 r) (hM : MH (I 166) r) (r18 : r 1 ≤ 8) (hz : ¬ r 1 = 0) (x y z v V : Int32) (hb : (0 ≤ x.toInt ∧ x.toInt < 8) ∧ (0 ≤ z.toInt ∧ z.toInt ≤ 8)) (hv : ¬ v = 0) (hV : ¬ V = 0) (l1 : f_X11_lackOfRoute (enc I D K n Z) 0 x y z = some (v, enc I D K n Z)) (lF : f_X11_found (enc I D K n Z) 0 v = some (V, enc (va_up I 0 (upd (I 0) 15 v)) D K n Z)) (l2 : f_X12_rowFound (enc (thr (va_up I 0 (upd (I 0) 15 v))) D K n Z) 162 x y z = some (V, enc (stI I v) D K n Z)) : GD Z N (enc I D K n Z) (fun h => f_X11_errand h 0 x y z) (fun h => f_X12_errand h 162 x y z) := by
  have hM2 : MH (thr (va_up I 0 (upd (I 0) 15 v)) 166) r := by rw [thr_n (by decide), va_up_ne _ _ (by decide)]; exact hM
  refine ⟨V, enc (va_up I 0 (upd (I 0) 15 v)) D K n Z, stI I v, D, K, n, ?_, ?_, h.told v⟩
  · simp only [f_X11_errand, r0_3, bA_s, c9, c_stands9 h9 hc.1.1 r18, b2_s, if_neg hz, if_neg one0, c_bad, if_pos hb, if_true, c0, l1, if_neg hv, lF]
  · simp only [f_X12_errand, p_thr, bA_s, c162, m_isThere hM2 r18, b2_s, if_neg hz, if_neg one0, m_isErrand, if_pos hb, l2, if_neg hV]
end Errand2
