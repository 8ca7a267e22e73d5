section Who2
variable {I : Nat → Nat → Int32} {D : Nat → Nat → Option Nat} {K : Nat → Nat} {n N : Nat} {Z : Nat → Cl} {r : Ro}
def wh_ans (r : Ro) (d q : Nat) (xs : List Int32) (v : Int32) : Int32 := if q = 0 then wh_set (wh_P r (14 + 5 * d) xs v) 5 1 0 else if q = 1 then wh_set (wh_P r (17 + 5 * d) xs v) 10 0 0 else if q = 2 then nI (wh_cnt (wh_P r 4 xs v) 64 0 0) else wh_first (wh_P r 4 xs v) 64 0
def wh_v (v : Int32) : Prop := ((0 : Int) ≤ v.toInt ∧ v.toInt ≤ (160 : Nat)) ∨ (((1006 : Nat) : Int) ≤ v.toInt ∧ v.toInt ≤ (1011 : Nat))
theorem c_isOut1 (h : Hp) {v : Int32} (hv : wh_v v) : f_X11_isOutcome h v = some (1, h) := by
  have e160 : (160 : Int32).toInt = 160 := by decide
  have e6 : (1006 : Int32).toInt = 1006 := by decide
  have e11 : (1011 : Int32).toInt = 1011 := by decide
  unfold f_X11_isOutcome
  rcases hv with hv | hv
  · rw [if_neg (show ¬ v < 0 by rw [fa_lt, i32z]; omega), if_pos (show v ≤ (160 : Int32) by rw [fa_le, e160]; omega), bA_s, bz1, bA_s]
  · rw [if_neg (show ¬ v < 0 by rw [fa_lt, i32z]; omega), if_neg (show ¬ v ≤ (160 : Int32) by rw [fa_le, e160]; omega), if_neg (show ¬ v < (1006 : Int32) by rw [fa_lt, e6]; omega), if_neg (show ¬ (1011 : Int32) < v by rw [fa_lt, e11]; omega), bA_s, bz1, bA_s]
theorem c_isOut0 (h : Hp) {v : Int32} (hv : ¬ wh_v v) : f_X11_isOutcome h v = some (0, h) := by
  have e160 : (160 : Int32).toInt = 160 := by decide
  have e6 : (1006 : Int32).toInt = 1006 := by decide
  have e11 : (1011 : Int32).toInt = 1011 := by decide
  unfold wh_v at hv
  unfold f_X11_isOutcome
  have inner : (if v < (1006 : Int32) then some (0 : Int32) else (if (1011 : Int32) < v then some (0 : Int32) else some (1 : Int32))) = some 0 := by
    by_cases a : v < (1006 : Int32)
    · rw [if_pos a]
    · rw [if_neg a]
      rw [fa_lt, e6] at a
      rw [if_pos (show (1011 : Int32) < v by rw [fa_lt, e11]; omega)]
  by_cases a : v < 0
  · rw [if_pos a, inner, bA_s, bz0, bA_s]
  · rw [if_neg a]
    rw [fa_lt, i32z] at a
    rw [if_neg (show ¬ v ≤ (160 : Int32) by rw [fa_le, e160]; omega), inner, bA_s, bz0, bA_s]
theorem m_in1011 (h : Hp) (v : Int32) : f_X12_in h v.toInt64 (1006 : Int64) (1011 : Int64) = some (if ((1006 : Nat) : Int) ≤ v.toInt ∧ v.toInt ≤ (1011 : Nat) then 1 else 0, h) := m_inL h v 1006 1011 (by decide) (by decide)
/-- the reference, once its row is found: ready to dream -/
theorem found_mE {k c i : Nat} {I1 : Nat → Nat → Int32} {D1 : Nat → Nat → Option Nat} (hM : MH (I 166) r) (f : ∀ x, (x < 16 ∨ 23 < x) → x < 177 → x ≠ 0 → I1 x = I x) (l2 : ∀ (J : Nat → Nat → Int32) (E : Nat → Nat → Option Nat) (L : Nat → Nat) (p : Nat), J 163 = I 163 → J 164 = I 164 → J 165 = I 165 → ∃ J', f_X12_rowFound (enc J E L p Z) 162 (nI k) (nI i) (nI c) = some (0, enc J' E L p Z) ∧ (∀ y, y ≠ 162 → y ≠ 171 → J' y = J y) ∧ J' 162 = upd (J 162) 1 0 ∧ (∀ t, t < c → J' 171 t = I (31 + 2 * k) (i + t))) : ∃ J, f_X12_rowFound (enc (thr I1) D1 K n Z) 162 (nI k) (nI i) (nI c) = some (0, enc J D1 K n Z) ∧ FM I1 J ∧ J 162 1 = 0 ∧ MH (J 166) r ∧ MH (thr I1 166) r ∧ itm (J 171) 0 c = itm (I (31 + 2 * k)) i c := by
  have t : ∀ x, x ≠ 162 → (23 < x ∧ x < 177) → x ≠ 0 → thr I1 x = I x := fun x a b d => by rw [thr_n a, f x (by omega) b.2 d]
  obtain ⟨J, m1, m2, m3, m4⟩ := l2 (thr I1) D1 K n (t 163 (by decide) (by omega) (by decide)) (t 164 (by decide) (by omega) (by decide)) (t 165 (by decide) (by omega) (by decide))
  have e166 : thr I1 166 = I 166 := t 166 (by decide) (by omega) (by decide)
  refine ⟨J, m1, ⟨fun x a b d e => by rw [m2 x a d, thr_n a], fun j a b d => by rw [m3, pk_un b, thr_s a]⟩, by rw [m3, pk_us], ?_, by rw [e166]; exact hM, itm_eq c 0 i (fun t ht => by rw [Nat.zero_add, m4 t ht])⟩
  rw [m2 166 (by decide) (by decide), e166]; exact hM
set_option maxRecDepth 100000 in
set_option maxHeartbeats 8000000 in
theorem m_who_tail {d q c : Nat} {v x3 x4 : Int32} {xs : List Int32} {J : Nat → Nat → Int32} (hw : wf r N) (hN : N ≤ 2000) (hc8 : c ≤ 8) (hd : d < r 0) (hq : q < 4) (hM : MH (J 166) r) (hx : itm (J 171) 0 c = xs) : ∃ J', (bA (if nI q ≤ (1 : Int32) then bA (if nI q = 0 then some (0 : Int32) else some (3 : Int32)) fun j138 => some (((14 : Int32) + ((5 : Int32) * nI d)) + j138) else some (4 : Int32)) fun j134 => bA (if nI q = 0 then some (5 : Int32) else (if nI q = (1 : Int32) then some (9 : Int32) else some (63 : Int32))) fun j142 => bA (if nI q = 0 then some (1 : Int32) else some (0 : Int32)) fun j147 => f_X12_who_L154 (fun y151 y152 y153 y154 h150 => bA (if (2 : Int32) ≤ nI q then (if nI q = (2 : Int32) then some y152 else some y153) else some y151) fun j156 => some (j156, h150)) 162 (nI d) (nI q) x3 x4 (nI c) v 0 j134 j142 2000 (enc J D K n Z) (0 : Int32) (0 : Int32) (-1000000 : Int32) j147) = some (wh_ans r d q xs v, enc J' D K n Z) ∧ LM J J' := by
  have hd8 : d < 8 := by have := hw.le8.2; omega
  have p0 : ((14 : Int32) + ((5 : Int32) * nI d)) + (0 : Int32) = nI (14 + 5 * d) := by
    rw [show (14 : Int32) = nI 14 from rfl, show (5 : Int32) = nI 5 from rfl, show (0 : Int32) = nI 0 from rfl, pk_mul, nI_add, nI_add, Nat.add_zero]
  have p3 : ((14 : Int32) + ((5 : Int32) * nI d)) + (3 : Int32) = nI (17 + 5 * d) := by
    rw [show (14 : Int32) = nI 14 from rfl, show (5 : Int32) = nI 5 from rfl, show (3 : Int32) = nI 3 from rfl, pk_mul, nI_add, nI_add, show 14 + 5 * d + 3 = 17 + 5 * d by omega]
  rcases (show q = 0 ∨ q = 1 ∨ q = 2 ∨ q = 3 by omega) with rfl | rfl | rfl | rfl
  · obtain ⟨J', a', g1, g2, g3⟩ := m_who_L (D := D) (K := K) (n := n) (Z := Z) (N := N) (fun y151 y152 y153 y154 h150 => bA (if (2 : Int32) ≤ nI 0 then (if nI 0 = (2 : Int32) then some y152 else some y153) else some y151) fun j156 => some (j156, h150)) (nI d) (nI 0) x3 x4 v 0 (c := c) (p := 14 + 5 * d) (hi' := 5) (lo := 1) (xs := xs) (by omega) (by decide) (fun j a b => hw.kind a b) hN hc8 5 2000 1 J 0 0 (-1000000) (by omega) (by omega) (by omega) (by omega) hM hx
    refine ⟨J', ?_, g3⟩
    simp only [if_pos (show nI 0 ≤ (1 : Int32) by decide), if_pos (show nI 0 = (0 : Int32) by decide), bA_s, p0]
    refine Eq.trans g1 ?_
    rw [if_neg (show ¬ (2 : Int32) ≤ nI 0 by decide), bA_s, g2 (by decide)]
    rfl
  · obtain ⟨J', a', g1, g2, g3⟩ := m_who_L (D := D) (K := K) (n := n) (Z := Z) (N := N) (fun y151 y152 y153 y154 h150 => bA (if (2 : Int32) ≤ nI 1 then (if nI 1 = (2 : Int32) then some y152 else some y153) else some y151) fun j156 => some (j156, h150)) (nI d) (nI 1) x3 x4 v 0 (c := c) (p := 17 + 5 * d) (hi' := 9) (lo := 0) (xs := xs) (by omega) (by decide) (fun j a b => hw.num b) hN hc8 10 2000 0 J 0 0 (-1000000) (by omega) (by omega) (by omega) (by omega) hM hx
    refine ⟨J', ?_, g3⟩
    simp only [if_pos (show nI 1 ≤ (1 : Int32) by decide), if_neg (show ¬ nI 1 = (0 : Int32) by decide), if_pos (show nI 1 = (1 : Int32) by decide), bA_s, p3]
    refine Eq.trans g1 ?_
    rw [if_neg (show ¬ (2 : Int32) ≤ nI 1 by decide), bA_s, g2 (by decide)]
    rfl
  · obtain ⟨J', a', g1, g2, g3⟩ := m_who_L (D := D) (K := K) (n := n) (Z := Z) (N := N) (fun y151 y152 y153 y154 h150 => bA (if (2 : Int32) ≤ nI 2 then (if nI 2 = (2 : Int32) then some y152 else some y153) else some y151) fun j156 => some (j156, h150)) (nI d) (nI 2) x3 x4 v 0 (c := c) (p := 4) (hi' := 63) (lo := 0) (xs := xs) (by omega) (by decide) (fun j a b => hw.low (by omega)) hN hc8 64 2000 0 J 0 0 (-1000000) (by omega) (by omega) (by omega) (by omega) hM hx
    refine ⟨J', ?_, g3⟩
    simp only [if_neg (show ¬ nI 2 ≤ (1 : Int32) by decide), if_neg (show ¬ nI 2 = (0 : Int32) by decide), if_neg (show ¬ nI 2 = (1 : Int32) by decide), bA_s]
    refine Eq.trans g1 ?_
    rw [if_pos (show (2 : Int32) ≤ nI 2 by decide), if_pos (show nI 2 = (2 : Int32) by decide), bA_s]
    rfl
  · obtain ⟨J', a', g1, g2, g3⟩ := m_who_L (D := D) (K := K) (n := n) (Z := Z) (N := N) (fun y151 y152 y153 y154 h150 => bA (if (2 : Int32) ≤ nI 3 then (if nI 3 = (2 : Int32) then some y152 else some y153) else some y151) fun j156 => some (j156, h150)) (nI d) (nI 3) x3 x4 v 0 (c := c) (p := 4) (hi' := 63) (lo := 0) (xs := xs) (by omega) (by decide) (fun j a b => hw.low (by omega)) hN hc8 64 2000 0 J 0 0 (-1000000) (by omega) (by omega) (by omega) (by omega) hM hx
    refine ⟨J', ?_, g3⟩
    simp only [if_neg (show ¬ nI 3 ≤ (1 : Int32) by decide), if_neg (show ¬ nI 3 = (0 : Int32) by decide), if_neg (show ¬ nI 3 = (1 : Int32) by decide), bA_s]
    refine Eq.trans g1 ?_
    rw [if_pos (show (2 : Int32) ≤ nI 3 by decide), if_neg (show ¬ nI 3 = (2 : Int32) by decide), bA_s, wh_least_0]
    rfl
set_option maxRecDepth 100000 in
set_option maxHeartbeats 8000000 in
theorem c_who_tail {d q c i k : Nat} {v : Int32} (h : Inv I D K n N) (hc : CH I D K n 9 r) (hw : wf r N) (hN : N ≤ 2000) (hi : i + c ≤ 40) (hc8 : c ≤ 8) (hk : k < 8) (hd : d < r 0) (hq : q < 4) : ∃ I3 D3 K3 n3, (if nI q = 0 then bA (isC (enc I D K n Z) 0 10) fun u97 => b2 (f_X11_kindsFor (enc I D K n Z) 0 (nI d) (31 + 2 * k) (nI i) (nI c) v) fun r93 h91 => bA (isC h91 0 10) fun u106 => b2 (f_X11_well h91 0 r93) fun r102 h100 => some (r102, h100) else (if nI q = (1 : Int32) then bA (isC (enc I D K n Z) 0 10) fun u79 => b2 (f_X11_numbersFor (enc I D K n Z) 0 (nI d) (31 + 2 * k) (nI i) (nI c) v) fun r75 h73 => bA (isC h73 0 10) fun u88 => b2 (f_X11_well h73 0 r75) fun r84 h82 => some (r84, h82) else bA (if nI q = (3 : Int32) then some (1 : Int32) else some (0 : Int32)) fun j52 => bA (isC (enc I D K n Z) 0 10) fun u61 => b2 (f_X11_keysFor (enc I D K n Z) 0 j52 (31 + 2 * k) (nI i) (nI c) v) fun r57 h55 => bA (isC h55 0 10) fun u70 => b2 (f_X11_well h55 0 r57) fun r66 h64 => some (r66, h64))) = some (wh_ans r d q (itm (I (31 + 2 * k)) i c) v, enc (va_up I3 0 (upd (I3 0) 15 0)) D3 K3 n3 Z) ∧ FE I D K n I3 D3 K3 n3 ∧ DV D3 K3 n3 := by
  have hx1 : ∀ (K : Nat → Nat) (n : Nat), shp K n (31 + 2 * k) = some (.inr (.inl (0, 40))) := fun K n => s_R1 hk
  have hDV := h.2.2.2.2.2.2
  rcases (show q = 0 ∨ q = 1 ∨ q = 2 ∨ q = 3 by omega) with rfl | rfl | rfl | rfl
  · obtain ⟨I3, D3, K3, n3, g1, g2, g3⟩ := c_kinds_L (Z := Z) (N := N) (fun y64 y65 h63 => some (y64, h63)) (v := v) (xs := itm (I (31 + 2 * k)) i c) hx1 (by omega) (by omega) hw hN hi hc8 hd 5 12 1 I D K n 0 (by omega) (by omega) (by omega) hDV hc rfl
    refine ⟨I3, D3, K3, n3, ?_, g2, g3⟩
    have g1 : f_X11_kindsFor_L6 (fun y64 y65 h63 => some (y64, h63)) 0 (nI d) (31 + 2 * k) (nI i) (nI c) v 12 (enc I D K n Z) (0 : Int32) (1 : Int32) = _ := g1
    simp only [if_pos (show nI 0 = (0 : Int32) by decide), c0, bA_s, f_X11_kindsFor, g1, b2_s, f_X11_well, p0_15]
    rfl
  · obtain ⟨I3, D3, K3, n3, g1, g2, g3⟩ := c_numbers_L (Z := Z) (N := N) (fun y64 y65 h63 => some (y64, h63)) (v := v) (xs := itm (I (31 + 2 * k)) i c) hx1 (by omega) (by omega) hw hN hi hc8 hd 10 12 0 I D K n 0 (by omega) (by omega) hDV hc rfl
    refine ⟨I3, D3, K3, n3, ?_, g2, g3⟩
    have g1 : f_X11_numbersFor_L6 (fun y64 y65 h63 => some (y64, h63)) 0 (nI d) (31 + 2 * k) (nI i) (nI c) v 12 (enc I D K n Z) (0 : Int32) (0 : Int32) = _ := g1
    simp only [if_neg (show ¬ nI 1 = (0 : Int32) by decide), if_pos (show nI 1 = (1 : Int32) by decide), c0, bA_s, f_X11_numbersFor, g1, b2_s, f_X11_well, p0_15]
    rfl
  · obtain ⟨I3, D3, g1, g2, g3⟩ := c_keys_L (K := K) (n := n) (Z := Z) (N := N) (fun y44 y45 h43 => bA (if (0 : Int32) = 0 then some y44 else some (-1000000 : Int32)) fun j47 => some (j47, h43)) (b := 0) (v := v) (xs := itm (I (31 + 2 * k)) i c) hx1 (by omega) (by omega) hw hN hi hc8 (fun _ _ _ => rfl) 64 2000 0 I D 0 (by omega) (by omega) hDV hc rfl
    refine ⟨I3, D3, K, n, ?_, g2, g3⟩
    have g1 : f_X11_keysFor (enc I D K n Z) 0 (0 : Int32) (31 + 2 * k) (nI i) (nI c) v = some (nI (wh_cnt (wh_P r 4 (itm (I (31 + 2 * k)) i c) v) 64 0 0), enc I3 D3 K n Z) := by
      rw [if_pos rfl] at g1
      exact g1
    simp only [if_neg (show ¬ nI 2 = (0 : Int32) by decide), if_neg (show ¬ nI 2 = (1 : Int32) by decide), if_neg (show ¬ nI 2 = (3 : Int32) by decide), c0, bA_s, g1, b2_s, f_X11_well, p0_15]
    rfl
  · obtain ⟨I3, D3, g1, g2, g3⟩ := c_keys_L (K := K) (n := n) (Z := Z) (N := N) (fun y44 y45 h43 => bA (if (1 : Int32) = 0 then some y44 else some (-1000000 : Int32)) fun j47 => some (j47, h43)) (b := 1) (v := v) (xs := itm (I (31 + 2 * k)) i c) hx1 (by omega) (by omega) hw hN hi hc8 (fun _ _ _ => rfl) 64 2000 0 I D 0 (by omega) (by omega) hDV hc rfl
    refine ⟨I3, D3, K, n, ?_, g2, g3⟩
    have g1 : f_X11_keysFor (enc I D K n Z) 0 (1 : Int32) (31 + 2 * k) (nI i) (nI c) v = some (wh_first (wh_P r 4 (itm (I (31 + 2 * k)) i c) v) 64 0, enc I3 D3 K n Z) := by
      rw [if_neg one0] at g1
      exact g1
    simp only [if_neg (show ¬ nI 3 = (0 : Int32) by decide), if_neg (show ¬ nI 3 = (1 : Int32) by decide), if_pos (show nI 3 = (3 : Int32) by decide), c0, bA_s, g1, b2_s, f_X11_well, p0_15]
    rfl
set_option maxRecDepth 100000 in
set_option maxHeartbeats 8000000 in
theorem k_who_b (h : Inv I D K n N) (hc : CH I D K n 9 r) (hM : MH (I 166) r) (r08 : r 0 ≤ 8) (x w a y z v : Int32) (hb : ¬ ((0 ≤ x.toInt ∧ x.toInt < r 0) ∧ ((0 : Int) ≤ w.toInt ∧ w.toInt ≤ (3 : Nat)) ∧ ((0 ≤ a.toInt ∧ a.toInt < 8) ∧ (0 ≤ z.toInt ∧ z.toInt ≤ 8)) ∧ wh_v v)) : GD Z N (enc I D K n Z) (fun h => f_X11_who h 0 x w a y z v) (fun h => f_X12_who h 162 x w a y z v) := by
  have hM' := thr_M (show 166 ≠ 162 by decide) hM
  have hin : ∀ h : Hp, f_X12_in h w.toInt64 (0 : Int64) (3 : Int64) = some (if (0 : Int) ≤ w.toInt ∧ w.toInt ≤ (3 : Nat) then 1 else 0, h) := fun h => in02 h w 3 (by decide) (by decide)
  have hv1 : ∀ h : Hp, f_X12_in h v.toInt64 (0 : Int64) (160 : Int64) = some (if (0 : Int) ≤ v.toInt ∧ v.toInt ≤ (160 : Nat) then 1 else 0, h) := fun h => in02 h v 160 (by decide) (by decide)
  refine ⟨-1000001, enc I D K n Z, _, D, K, n, ?_, ?_, h.thr⟩
  · by_cases hx : 0 ≤ x.toInt ∧ x.toInt < r 0
    · by_cases hw : (0 : Int) ≤ w.toInt ∧ w.toInt ≤ (3 : Nat)
      · obtain ⟨w0, w3⟩ := yes0b (show 3 < 2 ^ 31 by decide) hw
        have w3 : w ≤ (3 : Int32) := w3
        by_cases hr : (0 ≤ a.toInt ∧ a.toInt < 8) ∧ (0 ≤ z.toInt ∧ z.toInt ≤ 8)
        · have hv : ¬ wh_v v := fun q => hb ⟨hx, hw, hr, q⟩
          simp only [f_X11_who, r0_3, bA_s, c9, c_lacksDoor h9 r08 hc.1.2.1, b2_s, if_pos hx, if_true, if_neg w0, if_pos w3, c_bad, if_pos hr, c_isOut0 _ hv]
        · simp only [f_X11_who, r0_3, bA_s, c9, c_lacksDoor h9 r08 hc.1.2.1, b2_s, if_pos hx, if_true, if_neg w0, if_pos w3, c_bad, if_neg hr, if_neg one0]
      · have e : ∀ (a c : Option (Int32 × Hp)), (if w < 0 then a else if w ≤ (3 : Int32) then c else a) = a := not0b (show 3 < 2 ^ 31 by decide) hw
        simp only [f_X11_who, r0_3, bA_s, c9, c_lacksDoor h9 r08 hc.1.2.1, b2_s, if_pos hx, if_true, e]
    · simp only [f_X11_who, r0_3, bA_s, c9, c_lacksDoor h9 r08 hc.1.2.1, b2_s, if_neg hx, if_neg one0]
  · by_cases hx : 0 ≤ x.toInt ∧ x.toInt < r 0
    · by_cases hw : (0 : Int) ≤ w.toInt ∧ w.toInt ≤ (3 : Nat)
      · by_cases hr : (0 ≤ a.toInt ∧ a.toInt < 8) ∧ (0 ≤ z.toInt ∧ z.toInt ≤ 8)
        · have hv : ¬ wh_v v := fun q => hb ⟨hx, hw, hr, q⟩
          unfold wh_v at hv
          simp only [f_X12_who, p_thr, bA_s, c162, m_isDoor hM' r08, b2_s, if_pos hx, if_neg one0, hin, if_pos hw, m_isErrand, if_pos hr, hv1, if_neg (fun q => hv (Or.inl q)), if_true, m_in1011, if_neg (fun q => hv (Or.inr q))]
        · simp only [f_X12_who, p_thr, bA_s, c162, m_isDoor hM' r08, b2_s, if_pos hx, if_neg one0, hin, if_pos hw, m_isErrand, if_neg hr, if_true]
      · simp only [f_X12_who, p_thr, bA_s, c162, m_isDoor hM' r08, b2_s, if_pos hx, if_neg one0, hin, if_neg hw, if_true]
    · simp only [f_X12_who, p_thr, bA_s, c162, m_isDoor hM' r08, b2_s, if_neg hx, if_true]
set_option maxRecDepth 100000 in
set_option maxHeartbeats 8000000 in
theorem k_who_l (h : Inv I D K n N) (hc : CH I D K n 9 r) (hM : MH (I 166) r) (r08 : r 0 ≤ 8) (x w a y z u f V : Int32) (hx : 0 ≤ x.toInt ∧ x.toInt < r 0) (hw : (0 : Int) ≤ w.toInt ∧ w.toInt ≤ (3 : Nat)) (hr : (0 ≤ a.toInt ∧ a.toInt < 8) ∧ (0 ≤ z.toInt ∧ z.toInt ≤ 8)) (hu : wh_v u) (hv : ¬ f = 0) (hV : ¬ V = 0) (l1 : f_X11_lackOfRoute (enc I D K n Z) 0 a y z = some (f, enc I D K n Z)) (lF : f_X11_found (enc I D K n Z) 0 f = some (V, enc (va_up I 0 (upd (I 0) 15 f)) D K n Z)) (l2 : f_X12_rowFound (enc (thr (va_up I 0 (upd (I 0) 15 f))) D K n Z) 162 a y z = some (V, enc (stI I f) D K n Z)) : GD Z N (enc I D K n Z) (fun h => f_X11_who h 0 x w a y z u) (fun h => f_X12_who h 162 x w a y z u) := by
  have hM2 : MH (thr (va_up I 0 (upd (I 0) 15 f)) 166) r := by rw [thr_n (by decide), va_up_ne _ _ (by decide)]; exact hM
  have hin : ∀ h : Hp, f_X12_in h w.toInt64 (0 : Int64) (3 : Int64) = some (if (0 : Int) ≤ w.toInt ∧ w.toInt ≤ (3 : Nat) then 1 else 0, h) := fun h => in02 h w 3 (by decide) (by decide)
  have hv1 : ∀ h : Hp, f_X12_in h u.toInt64 (0 : Int64) (160 : Int64) = some (if (0 : Int) ≤ u.toInt ∧ u.toInt ≤ (160 : Nat) then 1 else 0, h) := fun h => in02 h u 160 (by decide) (by decide)
  obtain ⟨w0, w3⟩ := yes0b (show 3 < 2 ^ 31 by decide) hw
  have w3 : w ≤ (3 : Int32) := w3
  refine ⟨V, enc (va_up I 0 (upd (I 0) 15 f)) D K n Z, stI I f, D, K, n, ?_, ?_, h.told f⟩
  · simp only [f_X11_who, r0_3, bA_s, c9, c_lacksDoor h9 r08 hc.1.2.1, b2_s, if_pos hx, if_true, if_neg w0, if_pos w3, c_bad, if_pos hr, c_isOut1 _ hu, if_neg one0, c0, l1, if_neg hv, lF]
  · by_cases v1 : (0 : Int) ≤ u.toInt ∧ u.toInt ≤ (160 : Nat)
    · simp only [f_X12_who, p_thr, bA_s, c162, m_isDoor hM2 r08, b2_s, if_pos hx, if_neg one0, hin, if_pos hw, m_isErrand, if_pos hr, hv1, if_pos v1, l2, if_neg hV]
    · have v2 := hu.resolve_left v1
      simp only [f_X12_who, p_thr, bA_s, c162, m_isDoor hM2 r08, b2_s, if_pos hx, if_neg one0, hin, if_pos hw, m_isErrand, if_pos hr, hv1, if_neg v1, if_true, m_in1011, if_pos v2, l2, if_neg hV]
set_option maxRecDepth 100000 in
set_option maxHeartbeats 8000000 in
theorem k_who (h : Inv I D K n N) (hN : N ≤ 2000) (x w a y z v : Int32) : GD Z N (enc I D K n Z) (fun h => f_X11_who h 0 x w a y z v) (fun h => f_X12_who h 162 x w a y z v) := by
  obtain ⟨r, hc, hM, hw⟩ := h.2.2.1
  obtain ⟨r18, r08⟩ := ho8 hw
  by_cases hb : (0 ≤ x.toInt ∧ x.toInt < r 0) ∧ ((0 : Int) ≤ w.toInt ∧ w.toInt ≤ (3 : Nat)) ∧ ((0 ≤ a.toInt ∧ a.toInt < 8) ∧ (0 ≤ z.toInt ∧ z.toInt ≤ 8)) ∧ wh_v v
  · obtain ⟨hx, hww, hr, hv⟩ := hb
    obtain ⟨d, hd, rfl⟩ := (ix_in (m := r 0) (by omega)).mp hx
    have hwf := dr_wf hw hd
    obtain ⟨k, hk, rfl⟩ := (ix_in (x := a) (m := 8) (by decide)).mp hr.1
    obtain ⟨c, hc0, rfl⟩ := (ix_in (x := z) (m := 9) (by decide)).mp ⟨hr.2.1, by omega⟩
    rcases route (K := K) (n := n) (Z := Z) h.1 h.2.2.2.2.2.1.1 hk (show c ≤ 8 by omega) y with ⟨f, f0, f3, l1, l2⟩ | ⟨i, rfl, hi, l1, l2⟩
    · have ef : (nI f = (0 : Int32)) = (f = 0) := z_eq (by omega) (by decide)
      have l2' := l2 (thr (va_up I 0 (upd (I 0) 15 (nI f)))) D K n (by rw [thr_n (by decide), va_up_ne _ _ (by decide)]) (by rw [thr_n (by decide), va_up_ne _ _ (by decide)])
      rw [told_eq] at l2'
      exact k_who_l h hc hM r08 (nI d) w (nI k) y (nI c) v (nI f) _ hx hww hr hv (by rw [ef]; exact f0) (fne f0 f3) l1 (f_found _) l2'
    · have hin : ∀ h : Hp, f_X12_in h w.toInt64 (0 : Int64) (3 : Int64) = some (if (0 : Int) ≤ w.toInt ∧ w.toInt ≤ (3 : Nat) then 1 else 0, h) := fun h => in02 h w 3 (by decide) (by decide)
      have hv1 : ∀ h : Hp, f_X12_in h v.toInt64 (0 : Int64) (160 : Int64) = some (if (0 : Int) ≤ v.toInt ∧ v.toInt ≤ (160 : Nat) then 1 else 0, h) := fun h => in02 h v 160 (by decide) (by decide)
      obtain ⟨w0, w3⟩ := yes0b (show 3 < 2 ^ 31 by decide) hww
      have w3 : w ≤ (3 : Int32) := w3
      obtain ⟨q, hq4, rfl⟩ := (ix_in (x := w) (m := 4) (by decide)).mp ⟨hww.1, by omega⟩
      obtain ⟨I2, D2, K2, n2, e1, e2, e3⟩ := c_who_tail (Z := Z) (v := v) (q := q) h hc hwf hN hi (show c ≤ 8 by omega) hk hd hq4
      generalize hI3 : va_up I2 0 (upd (I2 0) 15 0) = I3 at e1
      obtain ⟨J, m1, m2, m3, m4, m5, m6⟩ := found_mE (K := K2) (n := n2) (I1 := I3) (D1 := D2) hM (fun x a a' b => by rw [← hI3, va_up_ne _ _ b, e2.1 x a a']) l2
      obtain ⟨J', s1, s2⟩ := m_who_tail (D := D2) (K := K2) (n := n2) (Z := Z) (v := v) (q := q) (d := d) (x3 := nI k) (x4 := nI i) hwf hN (show c ≤ 8 by omega) hd hq4 m4 m6
      have hinv : Inv J' D2 K2 n2 (N + 1) := h.dreamE (I' := I2) e2 e3 (s := 0) (by rw [hI3]; exact m2.trans s2.1) (by rw [s2.2.2]; exact m3)
      refine ⟨wh_ans r d q (itm (I (31 + 2 * k)) i c) v, enc I3 D2 K2 n2 Z, J', D2, K2, n2, ?_, ?_, hinv⟩
      rotate_left
      · by_cases v1 : (0 : Int) ≤ v.toInt ∧ v.toInt ≤ (160 : Nat)
        · simp only [f_X12_who, p_thr, bA_s, c162, m_isDoor m5 r08, b2_s, if_pos hx, if_neg one0, hin, if_pos hww, m_isErrand, if_pos hr, hv1, if_pos v1, m1, if_true]
          exact s1
        · have v2 := hv.resolve_left v1
          simp only [f_X12_who, p_thr, bA_s, c162, m_isDoor m5 r08, b2_s, if_pos hx, if_neg one0, hin, if_pos hww, m_isErrand, if_pos hr, hv1, if_neg v1, if_true, m_in1011, if_pos v2, m1]
          exact s1
      · simp only [f_X11_who, r0_3, bA_s, c9, c_lacksDoor h9 r08 hc.1.2.1, b2_s, if_pos hx, if_true, if_neg w0, if_pos w3, c_bad, if_pos hr, c_isOut1 _ hv, if_neg one0, c0, l1, r0_0, aldn_e s_1 k hk (show 8 < 2 ^ 31 by decide), h.2.2.2.2.2.1.1 k hk, gN_e (s_R hk) 0 rfl]
        simp only [c0, bA_s] at e1
        exact e1
  · exact k_who_b h hc hM r08 x w a y z v hb
end Who2
