/-! THE CALL needs -/
theorem nNone {v : Nat} (h : v < 2 ^ 31) : ¬ nI v = (-1000000 : Int32) := by
  intro q
  have q2 := congrArg Int32.toInt q
  rw [toInt_nI h, show (-1000000 : Int32).toInt = -1000000 by decide] at q2
  omega
section Needs
variable {I : Nat → Nat → Int32} {D : Nat → Nat → Option Nat} {K : Nat → Nat} {n N : Nat} {Z : Nat → Cl} {r : Ro}
/-- what the reference's tries leave alone -/
def LM (J J' : Nat → Nat → Int32) : Prop := FM J J' ∧ J' 171 = J 171 ∧ J' 162 1 = J 162 1
theorem LM.rf (J : Nat → Nat → Int32) : LM J J := ⟨FM.rfl', rfl, rfl⟩
theorem LM.tr {J J' L : Nat → Nat → Int32} (h : LM J J') (g : LM J' L) : LM J L := ⟨h.1.trans g.1, g.2.1.trans h.2.1, g.2.2.trans h.2.2⟩
theorem LM.row {J J' : Nat → Nat → Int32} (h : LM J J') : J' 166 = J 166 := h.1.1 166 (by decide) (by decide) (by decide) (by decide)
/-- a try: the row 'then' is laid, one number in it is changed, and it is gone over -/
theorem m_try {J : Nat → Nat → Int32} (hM : MH (J 166) r) {j v : Nat} (hj : j < 54) (hwf : wf (uN r j v) N) (hN : N ≤ 2000) {c : Nat} (hc8 : c ≤ 8) : ∃ J2 J2' J3, f_X12_layThen (enc J D K n Z) 162 = some (enc J2 D K n Z) ∧ ast (enc J2 D K n Z) 168 0 (nI j) (nI v) = some (enc J2' D K n Z) ∧ f_X12_goOut (enc J2' D K n Z) 162 168 (nI c) = some (nI (wGo (uN r j v) (itm (J 171) 0 c)).2.2, enc J3 D K n Z) ∧ MG J3 (wGo (uN r j v) (itm (J 171) 0 c)) ∧ LM J J3 := by
  obtain ⟨J2, e1, e2, e3⟩ := m_ld (D := D) (K := K) (n := n) (Z := Z) hM
  have e4 := ast_n (I := J2) (D := D) (K := K) (n := n) (Z := Z) s_168 j (nI v) hj (by decide)
  generalize hJ : va_up J2 168 (upd (J2 168) j (nI v)) = J2' at e4
  have hM2 : MH (J2' 168) (uN r j v) := by rw [← hJ, va_up_self]; exact e2.upd j v
  have f2 : ∀ x, x ≠ 168 → J2' x = J x := fun x hx => by rw [← hJ, va_up_ne _ _ hx, e3 x hx]
  obtain ⟨J3, d1, d2, d3, d4, d5, d6⟩ := m_gd (D := D) (K := K) (n := n) (Z := Z) hM2 hwf hN hc8
  rw [f2 171 (by decide)] at d1 d2 d3
  exact ⟨J2, J2', J3, e1, e4, d1, d3, (FM.lay f2).trans d4, by rw [d5, f2 171 (by decide)], by rw [d6, f2 162 (by decide)]⟩
set_option maxRecDepth 100000 in
set_option maxHeartbeats 8000000 in
theorem m_keys_L {β : Type} (kk : Int32 → Int32 → Hp → Option β) (x2 : Int32) (hwf : wf r N) (hN : N ≤ 2000) {c : Nat} (hc8 : c ≤ 8) {xs : List Int32} {U : Nat} {ok : Prop} [Decidable ok] (hU : U < 64) (hok : ∀ S, S < 64 → ((wGo (uN r 4 S) xs).2.1 = 0 ↔ ok ∧ U &&& S = U)) : ∀ (m fuel j : Nat) (J : Nat → Nat → Int32), j + m = 64 → m < fuel → MH (J 166) r → itm (J 171) 0 c = xs → ∃ J', f_X12_keysFor_L6 kk 162 (nI c) x2 fuel (enc J D K n Z) (if ok ∧ U < j then nI U else (-1000000 : Int32)) (nI j) = kk (if ok then nI U else (-1000000 : Int32)) (nI 64) (enc J' D K n Z) ∧ LM J J' := by
  intro m
  induction m with
  | zero =>
    intro fuel j J hj hf hM hx
    obtain ⟨f, rfl⟩ : ∃ f, fuel = f + 1 := ⟨fuel - 1, by omega⟩
    have e : j = 64 := by omega
    subst e
    refine ⟨J, ?_, LM.rf J⟩
    rw [f_X12_keysFor_L6, if_pos (show (64 : Int32) ≤ nI 64 by decide)]
    by_cases o : ok
    · rw [if_pos ⟨o, hU⟩, if_pos o]
    · rw [if_neg (fun q => o q.1), if_neg o]
  | succ m ih =>
    intro fuel j J hj hf hM hx
    obtain ⟨f, rfl⟩ : ∃ f, fuel = f + 1 := ⟨fuel - 1, by omega⟩
    have e64 : ¬ (64 : Int32) ≤ nI j := nI_ge (b := 64) (by omega) (by decide)
    have hwj : wf (uN r 4 j) N := hwf.low (by omega)
    obtain ⟨J2, J2', J3, t1, t2, t3, t4, t5⟩ := m_try (D := D) (K := K) (n := n) (Z := Z) hM (j := 4) (v := j) (by decide) hwj hN hc8
    have t2 : ast (enc J2 D K n Z) 168 0 (4 : Int32) (nI j) = some (enc J2' D K n Z) := t2
    have hgw := wGo_w hwj hN (itm (J 171) 0 c)
    have hkj := hok j (by omega)
    rw [hx] at t3 t4 hgw
    have ew : (nI (wGo (uN r 4 j) xs).2.2 ≤ (0 : Int32)) = ((wGo (uN r 4 j) xs).2.2 ≤ 0) := z_le (m := 0) (by omega) (by decide)
    have ih3 := ih f (j + 1) J3 (by omega) (by omega) (by rw [t5.row]; exact hM) (by rw [t5.2.1]; exact hx)
    by_cases a : ok ∧ U < j
    · have nU : ¬ nI U = (-1000000 : Int32) := nNone (by omega)
      have e1 : (if ok ∧ U < j then nI U else (-1000000 : Int32)) = nI U := if_pos a
      have e2 : (if ok ∧ U < j + 1 then nI U else (-1000000 : Int32)) = nI U := if_pos ⟨a.1, by omega⟩
      rw [e1, f_X12_keysFor_L6, if_neg e64, if_neg nU]
      have pb : (nI (pcN U) ≤ nI (pcN j)) = (pcN U ≤ pcN j) := z_le (by have := pc_lt U hU; omega) (by have := pc_lt j (by omega); omega)
      simp only [m_bits _ (show j < 64 by omega), m_bits _ hU, b2_s, pb]
      by_cases b : pcN U ≤ pcN j
      · obtain ⟨J', g1, g2⟩ := ih f (j + 1) J (by omega) (by omega) hM hx
        rw [e2] at g1
        refine ⟨J', ?_, g2⟩
        simp only [if_pos b, b2_s, z_i2]
        exact g1
      · have w0 : (wGo (uN r 4 j) xs).2.2 ≤ 0 := by
          have nw : ¬ (wGo (uN r 4 j) xs).2.1 = 0 := fun q => b (pc_sub U hU j (by omega) (hkj.mp q).2).2
          have := mt hgw.2.mpr nw
          omega
        obtain ⟨J', g1, g2⟩ := ih3
        rw [e2] at g1
        refine ⟨J', ?_, t5.tr g2⟩
        simp only [if_neg b, c162, bA_s, t1, r162_7, t2, t3, b2_s, ew, if_pos w0, z_i2]
        exact g1
    · have e1 : (if ok ∧ U < j then nI U else (-1000000 : Int32)) = -1000000 := if_neg a
      rw [e1, f_X12_keysFor_L6, if_neg e64, if_pos rfl]
      obtain ⟨J', g1, g2⟩ := ih3
      refine ⟨J', ?_, t5.tr g2⟩
      by_cases b : (wGo (uN r 4 j) xs).2.1 = 0
      · have o := hkj.mp b
        have hle := (pc_sub U hU j (by omega) o.2).1
        have ej : U = j := by
          rcases Nat.lt_or_ge U j with q | q
          · exact absurd ⟨o.1, q⟩ a
          · omega
        have w0 : ¬ (wGo (uN r 4 j) xs).2.2 ≤ 0 := by have := hgw.2.mp b; omega
        rw [if_pos (show ok ∧ U < j + 1 from ⟨o.1, by omega⟩), ej] at g1
        rw [ej]
        simp only [c162, bA_s, t1, r162_7, t2, t3, b2_s, ew, if_neg w0, z_i2]
        exact g1
      · have w0 : (wGo (uN r 4 j) xs).2.2 ≤ 0 := by have := mt hgw.2.mpr b; omega
        have na : ¬ (ok ∧ U < j + 1) := by
          intro q
          have ej : U = j := by
            rcases Nat.lt_or_ge U j with q2 | q2
            · exact absurd ⟨q.1, q2⟩ a
            · omega
          exact b (hkj.mpr ⟨q.1, by rw [ej, Nat.and_self]⟩)
        rw [if_neg na] at g1
        simp only [c162, bA_s, t1, r162_7, t2, t3, b2_s, ew, if_pos w0, z_i2]
        exact g1
set_option maxRecDepth 100000 in
set_option maxHeartbeats 8000000 in
theorem m_sleep_L (hwf : wf r N) (hN : N ≤ 2000) {c : Nat} (hc8 : c ≤ 8) {xs : List Int32} {U : Nat} {ok : Prop} [Decidable ok] (hU : ok → U ≤ 60) (hok : ∀ V, V ≤ 60 → ((wGo (uN r 3 V) xs).2.1 = 0 ↔ ok ∧ U ≤ V)) : ∀ (m fuel j : Nat) (J : Nat → Nat → Int32), 1 ≤ j → j + m = 61 → m < fuel → MH (J 166) r → itm (J 171) 0 c = xs → (ok → j ≤ max 1 U) → ∃ J', f_X12_sleepFor_L2 (fun y28 h27 => some ((-1000000 : Int32), h27)) 162 (nI c) fuel (enc J D K n Z) (nI j) = some (if ok then nI (max 1 U) else (-1000000 : Int32), enc J' D K n Z) ∧ LM J J' := by
  intro m
  induction m with
  | zero =>
    intro fuel j J h1 hj hf hM hx ho
    obtain ⟨f, rfl⟩ : ∃ f, fuel = f + 1 := ⟨fuel - 1, by omega⟩
    have e : j = 61 := by omega
    subst e
    have no : ¬ ok := fun q => by have := ho q; have := hU q; omega
    refine ⟨J, ?_, LM.rf J⟩
    rw [f_X12_sleepFor_L2, if_pos (show (60 : Int32) < nI 61 by decide), if_neg no]
  | succ m ih =>
    intro fuel j J h1 hj hf hM hx ho
    obtain ⟨f, rfl⟩ : ∃ f, fuel = f + 1 := ⟨fuel - 1, by omega⟩
    have e60 : ¬ (60 : Int32) < nI j := nI_nlt (a := 60) (by omega) (by decide)
    have hwj : wf (uN r 3 j) N := hwf.low (by omega)
    obtain ⟨J2, J2', J3, t1, t2, t3, t4, t5⟩ := m_try (D := D) (K := K) (n := n) (Z := Z) hM (j := 3) (v := j) (by decide) hwj hN hc8
    have t2 : ast (enc J2 D K n Z) 168 0 (3 : Int32) (nI j) = some (enc J2' D K n Z) := t2
    have hgw := wGo_w hwj hN (itm (J 171) 0 c)
    have hkj := hok j (by omega)
    rw [hx] at t3 t4 hgw
    have ew : (nI (wGo (uN r 3 j) xs).2.2 ≤ (0 : Int32)) = ((wGo (uN r 3 j) xs).2.2 ≤ 0) := z_le (m := 0) (by omega) (by decide)
    rw [f_X12_sleepFor_L2, if_neg e60]
    by_cases b : (wGo (uN r 3 j) xs).2.1 = 0
    · have o := hkj.mp b
      have w0 : ¬ (wGo (uN r 3 j) xs).2.2 ≤ 0 := by have := hgw.2.mp b; omega
      have ej : max 1 U = j := by have := ho o.1; omega
      refine ⟨J3, ?_, t5⟩
      simp only [c162, bA_s, t1, r162_7, t2, t3, b2_s, ew, if_neg w0, if_pos o.1, ej]
    · have w0 : (wGo (uN r 3 j) xs).2.2 ≤ 0 := by have := mt hgw.2.mpr b; omega
      obtain ⟨J', g1, g2⟩ := ih f (j + 1) J3 (by omega) (by omega) (by omega) (by rw [t5.row]; exact hM) (by rw [t5.2.1]; exact hx) (fun q => by
        have := mt hkj.mpr b
        have : ¬ U ≤ j := fun z => this ⟨q, z⟩
        omega)
      refine ⟨J', ?_, t5.tr g2⟩
      simp only [c162, bA_s, t1, r162_7, t2, t3, b2_s, ew, if_pos w0, z_i2]
      exact g1
set_option maxRecDepth 100000 in
set_option maxHeartbeats 8000000 in
theorem k_needs_s (h : Inv I D K n N) (hc : CH I D K n 9 r) (hM : MH (I 166) r) (r18 : r 1 ≤ 8) (hz : r 1 = 0) (x y z w : Int32) : GD Z N (enc I D K n Z) (fun h => f_X11_needs h 0 x y z w) (fun h => f_X12_needs h 162 x y z w) := by
  have hM' := thr_M (show 166 ≠ 162 by decide) hM
  refine ⟨-1000002, enc I D K n Z, _, D, K, n, ?_, ?_, h.thr⟩
  · simp only [f_X11_needs, r0_3, bA_s, c9, c_stands9 h9 hc.1.1 r18, b2_s, if_pos hz, if_true]
  · simp only [f_X12_needs, p_thr, bA_s, c162, m_isThere hM' r18, b2_s, if_pos hz, if_true]
set_option maxRecDepth 100000 in
set_option maxHeartbeats 8000000 in
theorem k_needs_b (h : Inv I D K n N) (hc : CH I D K n 9 r) (hM : MH (I 166) r) (r18 : r 1 ≤ 8) (hz : ¬ r 1 = 0) (x y z w : Int32) (hb : ¬ (((0 ≤ x.toInt ∧ x.toInt < 8) ∧ (0 ≤ z.toInt ∧ z.toInt ≤ 8)) ∧ ((0 : Int) ≤ w.toInt ∧ w.toInt ≤ (2 : Nat)))) : GD Z N (enc I D K n Z) (fun h => f_X11_needs h 0 x y z w) (fun h => f_X12_needs h 162 x y z w) := by
  have hM' := thr_M (show 166 ≠ 162 by decide) hM
  have hin : ∀ h : Hp, f_X12_in h w.toInt64 (0 : Int64) (2 : Int64) = some (if (0 : Int) ≤ w.toInt ∧ w.toInt ≤ (2 : Nat) then 1 else 0, h) := fun h => in02 h w 2 (by decide) (by decide)
  refine ⟨-1000001, enc I D K n Z, _, D, K, n, ?_, ?_, h.thr⟩
  · by_cases hb1 : (0 ≤ x.toInt ∧ x.toInt < 8) ∧ (0 ≤ z.toInt ∧ z.toInt ≤ 8)
    · simp only [f_X11_needs, r0_3, bA_s, c9, c_stands9 h9 hc.1.1 r18, b2_s, if_neg hz, if_neg one0, c_bad, if_pos hb1, if_true, show (2 : Int32) = nI 2 from rfl, not0b (show 2 < 2 ^ 31 by decide) (fun q => hb ⟨hb1, q⟩)]
    · simp only [f_X11_needs, r0_3, bA_s, c9, c_stands9 h9 hc.1.1 r18, b2_s, if_neg hz, if_neg one0, c_bad, if_neg hb1]
  · by_cases hb1 : (0 ≤ x.toInt ∧ x.toInt < 8) ∧ (0 ≤ z.toInt ∧ z.toInt ≤ 8)
    · simp only [f_X12_needs, p_thr, bA_s, c162, m_isThere hM' r18, b2_s, if_neg hz, if_neg one0, m_isErrand, if_pos hb1, hin, if_neg (fun q => hb ⟨hb1, q⟩), if_true]
    · simp only [f_X12_needs, p_thr, bA_s, c162, m_isThere hM' r18, b2_s, if_neg hz, if_neg one0, m_isErrand, if_neg hb1, if_true]
set_option maxRecDepth 100000 in
set_option maxHeartbeats 8000000 in
theorem k_needs_l (h : Inv I D K n N) (hc : CH I D K n 9 r) (hM : MH (I 166) r) (r18 : r 1 ≤ 8) (hz : ¬ r 1 = 0) (x y z w v V : Int32) (hb : (0 ≤ x.toInt ∧ x.toInt < 8) ∧ (0 ≤ z.toInt ∧ z.toInt ≤ 8)) (hw : (0 : Int) ≤ w.toInt ∧ w.toInt ≤ (2 : Nat)) (hv : ¬ v = 0) (hV : ¬ V = 0) (l1 : f_X11_lackOfRoute (enc I D K n Z) 0 x y z = some (v, enc I D K n Z)) (lF : f_X11_found (enc I D K n Z) 0 v = some (V, enc (va_up I 0 (upd (I 0) 15 v)) D K n Z)) (l2 : f_X12_rowFound (enc (thr (va_up I 0 (upd (I 0) 15 v))) D K n Z) 162 x y z = some (V, enc (stI I v) D K n Z)) : GD Z N (enc I D K n Z) (fun h => f_X11_needs h 0 x y z w) (fun h => f_X12_needs h 162 x y z w) := by
  have hM2 : MH (thr (va_up I 0 (upd (I 0) 15 v)) 166) r := by rw [thr_n (by decide), va_up_ne _ _ (by decide)]; exact hM
  have hin : ∀ h : Hp, f_X12_in h w.toInt64 (0 : Int64) (2 : Int64) = some (if (0 : Int) ≤ w.toInt ∧ w.toInt ≤ (2 : Nat) then 1 else 0, h) := fun h => in02 h w 2 (by decide) (by decide)
  obtain ⟨w0, w4⟩ := yes0b (show 2 < 2 ^ 31 by decide) hw
  refine ⟨V, enc (va_up I 0 (upd (I 0) 15 v)) D K n Z, stI I v, D, K, n, ?_, ?_, h.told v⟩
  · simp only [f_X11_needs, r0_3, bA_s, c9, c_stands9 h9 hc.1.1 r18, b2_s, if_neg hz, if_neg one0, c_bad, if_pos hb, if_true, if_neg w0, show (2 : Int32) = nI 2 from rfl, if_pos w4, c0, l1, if_neg hv, lF]
  · simp only [f_X12_needs, p_thr, bA_s, c162, m_isThere hM2 r18, b2_s, if_neg hz, if_neg one0, m_isErrand, if_pos hb, hin, if_pos hw, l2, if_neg hV]
theorem wGo_ku {r : Ro} {N : Nat} (h : wf r N) (hN : N ≤ 2000) (xs : List Int32) : (wGo r xs).1.2.2.2.2.2 < 64 := by
  have h1 := (WOK_wRun xs (start r) (WOK_start h hN)).2.2.2.2.2.1
  have h2 : (wGo r xs).1.2 = (wRun xs (start r)).1.2 := wTake_op _
  rw [h2]; exact h1
set_option maxRecDepth 100000 in
set_option maxHeartbeats 8000000 in
theorem k_needs (h : Inv I D K n N) (hN : N ≤ 2000) (x y z w : Int32) : GD Z N (enc I D K n Z) (fun h => f_X11_needs h 0 x y z w) (fun h => f_X12_needs h 162 x y z w) := by
  obtain ⟨r, hc, hM, hw⟩ := h.2.2.1
  obtain ⟨r18, r08⟩ := ho8 hw
  by_cases hz : r 1 = 0
  · exact k_needs_s h hc hM r18 hz x y z w
  · have hwf := st_wf hw hz
    by_cases hb : ((0 ≤ x.toInt ∧ x.toInt < 8) ∧ (0 ≤ z.toInt ∧ z.toInt ≤ 8)) ∧ ((0 : Int) ≤ w.toInt ∧ w.toInt ≤ (2 : Nat))
    · obtain ⟨hb, hww⟩ := hb
      obtain ⟨k, hk, rfl⟩ := (ix_in (x := x) (m := 8) (by decide)).mp hb.1
      obtain ⟨c, hc0, rfl⟩ := (ix_in (x := z) (m := 9) (by decide)).mp ⟨hb.2.1, by omega⟩
      rcases route (K := K) (n := n) (Z := Z) h.1 h.2.2.2.2.2.1.1 hk (show c ≤ 8 by omega) y with ⟨f, f0, f3, l1, l2⟩ | ⟨i, rfl, hi, l1, l2⟩
      · have ef : (nI f = (0 : Int32)) = (f = 0) := z_eq (by omega) (by decide)
        have l2' := l2 (thr (va_up I 0 (upd (I 0) 15 (nI f)))) D K n (by rw [thr_n (by decide), va_up_ne _ _ (by decide)]) (by rw [thr_n (by decide), va_up_ne _ _ (by decide)])
        rw [told_eq] at l2'
        exact k_needs_l h hc hM r18 hz (nI k) y (nI c) w (nI f) _ hb hww (by rw [ef]; exact f0) (fne f0 f3) l1 (f_found _) l2'
      · obtain ⟨w0, w4⟩ := yes0b (show 2 < 2 ^ 31 by decide) hww
        have w4 : w ≤ (2 : Int32) := w4
        have hin : ∀ h : Hp, f_X12_in h w.toInt64 (0 : Int64) (2 : Int64) = some (if (0 : Int) ≤ w.toInt ∧ w.toInt ≤ (2 : Nat) then 1 else 0, h) := fun h => in02 h w 2 (by decide) (by decide)
        obtain ⟨I1, D1, b1, b2', b3', b4'⟩ := c_bd (I := I) (D := D) (K := K) (n := n) (Z := Z) h.2.2.2.2.2.2 hc hwf.le8.1 hwf.le8.2
        by_cases t2 : w = (2 : Int32)
        · have hw2 : wf (uN r 3 60) N := hwf.low (by omega)
          have hs := b2'.slot h17 hwf.le8.1 (s := 6) (i := 3) (by omega) 60
          generalize hI1' : va_up I1 17 (upd (I1 17) 6 (nI 60)) = I1' at hs
          have hI1'' : va_up I1 17 (upd (I1 17) 6 (60 : Int32)) = I1' := hI1'
          have fd1 : FD I D I1' D1 := b3'.trans ⟨fun x hx => by rw [← hI1', va_up_ne _ _ (by omega)], fun _ _ => rfl⟩
          obtain ⟨I2, g1, g2, g3, g4⟩ := c_gd (D := D1) (Z := Z) (s_R1 hk) (by decide) (show 23 < 31 + 2 * k by omega) hs hw2 hN hi (show c ≤ 8 by omega)
          rw [fd1.1 (31 + 2 * k) (by omega)] at g2 g3
          have hgf : (wGo (uN r 3 60) (itm (I (31 + 2 * k)) i c)).2.1 < 2 ^ 31 := wGo_f _
          have hno : (wGo (uN r 3 60) (itm (I (31 + 2 * k)) i c)).2.1 = 0 → (wGo (uN r 3 60) (itm (I (31 + 2 * k)) i c)).1.2.2.1 ≤ 60 := nd_noise
          have hsl : ∀ V, V ≤ 60 → ((wGo (uN r 3 V) (itm (I (31 + 2 * k)) i c)).2.1 = 0 ↔ (wGo (uN r 3 60) (itm (I (31 + 2 * k)) i c)).2.1 = 0 ∧ (wGo (uN r 3 60) (itm (I (31 + 2 * k)) i c)).1.2.2.1 ≤ V) := fun V hV => nd_sleep hV _
          generalize hg : wGo (uN r 3 60) (itm (I (31 + 2 * k)) i c) = g at g2 g3 hgf hno hsl
          have ez : (nI g.2.1 = (0 : Int32)) = (g.2.1 = 0) := z_eq hgf (by decide)
          obtain ⟨q3, q5, q6, q7, q8, q9, q10, ql⟩ := g3
          generalize hI3 : va_up I2 0 (upd (I2 0) 15 0) = I3
          have fd2 : FD I D I2 D1 := fd1.trans g4
          obtain ⟨J, m1, m2, m3, m4, m5, m6⟩ := found_m (K := K) (n := n) (I1 := I3) (D1 := D1) hM (fun x a b => by rw [← hI3, va_up_ne _ _ b, fd2.1 x a]) l2
          obtain ⟨J', s1, s2⟩ := m_sleep_L (D := D1) (K := K) (n := n) (Z := Z) hwf hN (show c ≤ 8 by omega) hno hsl 60 2000 1 J (by omega) (by omega) (by omega) m4 m6 (fun _ => by omega)
          have s1 : f_X12_sleepFor_L2 (fun y28 h27 => some ((-1000000 : Int32), h27)) 162 (nI c) 2000 (enc J D1 K n Z) (1 : Int32) = some (if g.2.1 = 0 then nI (max 1 g.1.2.2.1) else (-1000000 : Int32), enc J' D1 K n Z) := s1
          have hinv : Inv J' D1 K n (N + 1) := h.dream (I' := I2) fd2 b4' (s := 0) (by rw [hI3]; exact m2.trans s2.1) (by rw [s2.2.2]; exact m3)
          refine ⟨if g.2.1 = 0 then nI (max 1 g.1.2.2.1) else (-1000000 : Int32), enc I3 D1 K n Z, J', D1, K, n, ?_, ?_, hinv⟩
          · simp only [f_X11_needs, r0_3, bA_s, c9, c_stands9 h9 hc.1.1 r18, b2_s, if_neg hz, if_neg one0, c_bad, if_pos hb, if_true, if_neg w0, if_pos w4, c0, l1, r0_6, c17, b1, if_pos t2, p17_6, hI1'', r0_5, r0_0, aldn_e s_1 k hk (show 8 < 2 ^ 31 by decide), fd1.2 1 (by omega), h.2.2.2.2.2.1.1 k hk, gN_e (s_R hk) 0 rfl, c16, g1, g16_10, q10, ez]
            by_cases e : g.2.1 = 0
            · have e1 : ((1 : Int32) < nI g.1.2.2.1) = (1 < g.1.2.2.1) := z_lt (k := 1) (by decide) (by have := hno e; omega)
              have e2 : (if (1 : Int32) < nI g.1.2.2.1 then nI g.1.2.2.1 else (1 : Int32)) = nI (max 1 g.1.2.2.1) := by
                by_cases q : 1 < g.1.2.2.1
                · rw [if_pos (e1.mpr q), show max 1 g.1.2.2.1 = g.1.2.2.1 by omega]
                · rw [if_neg (fun z => q (e1.mp z)), show max 1 g.1.2.2.1 = 1 by omega]; rfl
              simp only [if_pos e, r0_5, bA_s, g16_6, q6, c0, e2, f_X11_well, p0_15, hI3, b2_s]
            · simp only [if_neg e, bA_s, c0, f_X11_well, p0_15, hI3, b2_s]
          · simp only [f_X12_needs, p_thr, bA_s, c162, m_isThere m5 r18, b2_s, if_neg hz, if_neg one0, m_isErrand, if_pos hb, hin, if_pos hww, m1, if_true, if_pos t2, f_X12_sleepFor, s1]
        · have hw2 : wf (uN r 4 63) N := hwf.low (by omega)
          have hs := b2'.slot h17 hwf.le8.1 (s := 7) (i := 4) (by omega) 63
          generalize hI1' : va_up I1 17 (upd (I1 17) 7 (nI 63)) = I1' at hs
          have hI1'' : va_up I1 17 (upd (I1 17) 7 (63 : Int32)) = I1' := hI1'
          have fd1 : FD I D I1' D1 := b3'.trans ⟨fun x hx => by rw [← hI1', va_up_ne _ _ (by omega)], fun _ _ => rfl⟩
          obtain ⟨I2, g1, g2, g3, g4⟩ := c_gd (D := D1) (Z := Z) (s_R1 hk) (by decide) (show 23 < 31 + 2 * k by omega) hs hw2 hN hi (show c ≤ 8 by omega)
          rw [fd1.1 (31 + 2 * k) (by omega)] at g2 g3
          have hgf : (wGo (uN r 4 63) (itm (I (31 + 2 * k)) i c)).2.1 < 2 ^ 31 := wGo_f _
          have hku := wGo_ku hw2 hN (itm (I (31 + 2 * k)) i c)
          have hsl : ∀ S, S < 64 → ((wGo (uN r 4 S) (itm (I (31 + 2 * k)) i c)).2.1 = 0 ↔ (wGo (uN r 4 63) (itm (I (31 + 2 * k)) i c)).2.1 = 0 ∧ (wGo (uN r 4 63) (itm (I (31 + 2 * k)) i c)).1.2.2.2.2.2 &&& S = (wGo (uN r 4 63) (itm (I (31 + 2 * k)) i c)).1.2.2.2.2.2) := fun S hS => nd_keys hS _
          generalize hg : wGo (uN r 4 63) (itm (I (31 + 2 * k)) i c) = g at g2 g3 hgf hku hsl
          have ez : (nI g.2.1 = (0 : Int32)) = (g.2.1 = 0) := z_eq hgf (by decide)
          obtain ⟨q3, q5, q6, q7, q8, q9, q10, ql⟩ := g3
          generalize hI3 : va_up I2 0 (upd (I2 0) 15 0) = I3
          have fd2 : FD I D I2 D1 := fd1.trans g4
          obtain ⟨J, m1, m2, m3, m4, m5, m6⟩ := found_m (K := K) (n := n) (I1 := I3) (D1 := D1) hM (fun x a b => by rw [← hI3, va_up_ne _ _ b, fd2.1 x a]) l2
          obtain ⟨J', s1, s2⟩ := m_keys_L (D := D1) (K := K) (n := n) (Z := Z) (fun y81 y82 h80 => b2 (if y81 = (-1000000 : Int32) then some (y81, h80) else (if w = (1 : Int32) then some (y81, h80) else b2 (f_X12_bits h80 y81) fun r91 h89 => some (r91, h89))) fun j84 h85 => some (j84, h85)) w hwf hN (show c ≤ 8 by omega) hku hsl 64 2000 0 J (by omega) (by omega) m4 m6
          rw [if_neg (show ¬ (g.2.1 = 0 ∧ g.1.2.2.2.2.2 < 0) by omega), show nI 0 = (0 : Int32) by decide] at s1
          have hinv : Inv J' D1 K n (N + 1) := h.dream (I' := I2) fd2 b4' (s := 0) (by rw [hI3]; exact m2.trans s2.1) (by rw [s2.2.2]; exact m3)
          have nU : ¬ nI g.1.2.2.2.2.2 = (-1000000 : Int32) := nNone (by omega)
          refine ⟨if g.2.1 = 0 then (if w = (1 : Int32) then nI g.1.2.2.2.2.2 else nI (pcN g.1.2.2.2.2.2)) else (-1000000 : Int32), enc I3 D1 K n Z, J', D1, K, n, ?_, ?_, hinv⟩
          · simp only [f_X11_needs, r0_3, bA_s, c9, c_stands9 h9 hc.1.1 r18, b2_s, if_neg hz, if_neg one0, c_bad, if_pos hb, if_true, if_neg w0, if_pos w4, c0, l1, r0_6, c17, b1, if_neg t2, p17_7, hI1'', r0_5, r0_0, aldn_e s_1 k hk (show 8 < 2 ^ 31 by decide), fd1.2 1 (by omega), h.2.2.2.2.2.1.1 k hk, gN_e (s_R hk) 0 rfl, c16, g1, g16_10, q10, ez]
            by_cases e : g.2.1 = 0
            · by_cases t1 : w = (1 : Int32)
              · simp only [if_pos e, if_pos t1, r0_5, bA_s, g16_8, q8, c0, f_X11_well, p0_15, hI3, b2_s]
              · simp only [if_pos e, if_neg t1, r0_5, bA_s, g16_8, q8, c_bitCount _ hku, c0, f_X11_well, p0_15, hI3, b2_s]
            · simp only [if_neg e, bA_s, c0, f_X11_well, p0_15, hI3, b2_s]
          · simp only [f_X12_needs, p_thr, bA_s, c162, m_isThere m5 r18, b2_s, if_neg hz, if_neg one0, m_isErrand, if_pos hb, hin, if_pos hww, m1, if_true, if_neg t2, f_X12_keysFor, s1]
            by_cases e : g.2.1 = 0
            · by_cases t1 : w = (1 : Int32)
              · simp only [if_pos e, if_pos t1, if_neg nU, b2_s]
              · simp only [if_pos e, if_neg t1, if_neg nU, m_bits _ hku, b2_s]
            · simp only [if_neg e, if_true, b2_s]
    · exact k_needs_b h hc hM r18 hz x y z w hb
end Needs
