section Errand2
variable {I : Nat → Nat → Int32} {D : Nat → Nat → Option Nat} {K : Nat → Nat} {n N : Nat} {Z : Nat → Cl} {r : Ro}
theorem isW8 : isW 8 := by simp [isW]
theorem isW16 : isW 16 := by simp [isW]
/-- a finding that both tell -/
theorem told_eq (f : Int32) : va_up (thr (va_up I 0 (upd (I 0) 15 f))) 162 (upd (thr (va_up I 0 (upd (I 0) 15 f)) 162) 1 f) = stI I f := by
  unfold thr stI
  rw [bx_uu, va_up_self, va_up_ne _ _ (show 162 ≠ 0 by decide)]
theorem fne1 : ¬ (-1000010 - nI 1 : Int32) = 0 := by decide
theorem fne2 : ¬ (-1000010 - nI 2 : Int32) = 0 := by decide
theorem fne {f : Nat} (h0 : f ≠ 0) (h3 : f < 3) : ¬ (-1000010 - nI f : Int32) = 0 := by
  rcases (show f = 1 ∨ f = 2 by omega) with e | e
  · rw [e]; exact fne1
  · rw [e]; exact fne2
theorem e_val {α : Type} {c : Prop} [hd : Decidable c] (a b : α) (x : α → Option Hp) (h : c) : (if c then x a else x b) = x a := if_pos h
set_option maxRecDepth 100000 in
set_option maxHeartbeats 8000000 in
theorem k_errand_s (h : Inv I D K n N) {r : Ro} (hc : CH I D K n 9 r) (hM : MH (I 166) r) (r18 : r 1 ≤ 8) (hz : r 1 = 0) (x y z : Int32) : GD Z N (enc I D K n Z) (fun h => f_X11_errand h 0 x y z) (fun h => f_X12_errand h 162 x y z) := by
  have hM' := thr_M (show 166 ≠ 162 by decide) hM
  refine ⟨-1000002, enc I D K n Z, _, D, K, n, ?_, ?_, h.thr⟩
  · simp only [f_X11_errand, r0_3, bA_s, c9, c_stands9 h9 hc.1.1 r18, b2_s, if_pos hz, if_true]
  · simp only [f_X12_errand, p_thr, bA_s, c162, m_isThere hM' r18, b2_s, if_pos hz, if_true]
set_option maxRecDepth 100000 in
set_option maxHeartbeats 8000000 in
theorem k_errand_b (h : Inv I D K n N) {r : Ro} (hc : CH I D K n 9 r) (hM : MH (I 166) r) (r18 : r 1 ≤ 8) (hz : ¬ r 1 = 0) (x y z : Int32) (hb : ¬ ((0 ≤ x.toInt ∧ x.toInt < 8) ∧ (0 ≤ z.toInt ∧ z.toInt ≤ 8))) : GD Z N (enc I D K n Z) (fun h => f_X11_errand h 0 x y z) (fun h => f_X12_errand h 162 x y z) := by
  have hM' := thr_M (show 166 ≠ 162 by decide) hM
  refine ⟨-1000001, enc I D K n Z, _, D, K, n, ?_, ?_, h.thr⟩
  · simp only [f_X11_errand, r0_3, bA_s, c9, c_stands9 h9 hc.1.1 r18, b2_s, if_neg hz, if_neg one0, c_bad, if_neg hb]
  · simp only [f_X12_errand, p_thr, bA_s, c162, m_isThere hM' r18, b2_s, if_neg hz, if_neg one0, m_isErrand, if_neg hb, if_true]
theorem f_found (x : Int32) : f_X11_found (enc I D K n Z) 0 x = some (-1000010 - x, enc (va_up I 0 (upd (I 0) 15 x)) D K n Z) := by
  simp only [f_X11_found, p0_15, bA_s]
set_option maxRecDepth 100000 in
set_option maxHeartbeats 8000000 in
theorem k_errand_l (h : Inv I D K n N) {r : Ro} (hc : CH I D K n 9 r) (hM : MH (I 166) r) (r18 : r 1 ≤ 8) (hz : ¬ r 1 = 0) (x y z v V : Int32) (hb : (0 ≤ x.toInt ∧ x.toInt < 8) ∧ (0 ≤ z.toInt ∧ z.toInt ≤ 8)) (hv : ¬ v = 0) (hV : ¬ V = 0) (l1 : f_X11_lackOfRoute (enc I D K n Z) 0 x y z = some (v, enc I D K n Z)) (lF : f_X11_found (enc I D K n Z) 0 v = some (V, enc (va_up I 0 (upd (I 0) 15 v)) D K n Z)) (l2 : f_X12_rowFound (enc (thr (va_up I 0 (upd (I 0) 15 v))) D K n Z) 162 x y z = some (V, enc (stI I v) D K n Z)) : GD Z N (enc I D K n Z) (fun h => f_X11_errand h 0 x y z) (fun h => f_X12_errand h 162 x y z) := by
  have hM2 : MH (thr (va_up I 0 (upd (I 0) 15 v)) 166) r := by rw [thr_n (by decide), va_up_ne _ _ (by decide)]; exact hM
  refine ⟨V, enc (va_up I 0 (upd (I 0) 15 v)) D K n Z, stI I v, D, K, n, ?_, ?_, h.told v⟩
  · simp only [f_X11_errand, r0_3, bA_s, c9, c_stands9 h9 hc.1.1 r18, b2_s, if_neg hz, if_neg one0, c_bad, if_pos hb, if_true, c0, l1, if_neg hv, lF]
  · simp only [f_X12_errand, p_thr, bA_s, c162, m_isThere hM2 r18, b2_s, if_neg hz, if_neg one0, m_isErrand, if_pos hb, l2, if_neg hV]
set_option maxRecDepth 100000 in
set_option maxHeartbeats 8000000 in
theorem k_errand (h : Inv I D K n N) (hN : N ≤ 2000) (x y z : Int32) : GD Z N (enc I D K n Z) (fun h => f_X11_errand h 0 x y z) (fun h => f_X12_errand h 162 x y z) := by
  obtain ⟨r, hc, hM, hw⟩ := h.2.2.1
  obtain ⟨r18, r08⟩ := ho8 hw
  have hM' := thr_M (show 166 ≠ 162 by decide) hM
  by_cases hz : r 1 = 0
  · exact k_errand_s h hc hM r18 hz x y z
  · have hwf := st_wf hw hz
    by_cases hb : (0 ≤ x.toInt ∧ x.toInt < 8) ∧ (0 ≤ z.toInt ∧ z.toInt ≤ 8)
    · obtain ⟨k, hk, rfl⟩ := (ix_in (x := x) (m := 8) (by decide)).mp hb.1
      obtain ⟨c0', hc0, rfl⟩ := (ix_in (x := z) (m := 9) (by decide)).mp ⟨hb.2.1, by omega⟩
      rcases route (K := K) (n := n) (Z := Z) h.1 h.2.2.2.2.2.1.1 hk (show c0' ≤ 8 by omega) y with ⟨f, f0, f3, l1, l2⟩ | ⟨i, rfl, hi, l1, l2⟩
      · have ef : (nI f = (0 : Int32)) = (f = 0) := z_eq (by omega) (by decide)
        have l2' := l2 (thr (va_up I 0 (upd (I 0) 15 (nI f)))) D K n (by rw [thr_n (by decide), va_up_ne _ _ (by decide)]) (by rw [thr_n (by decide), va_up_ne _ _ (by decide)])
        rw [told_eq] at l2'
        exact k_errand_l h hc hM r18 hz (nI k) y (nI c0') (nI f) _ hb (by rw [ef]; exact f0) (fne f0 f3) l1 (f_found _) l2'
      · obtain ⟨o, c, a1, a2, a3, a4, a5, a6⟩ := h.2.2.2.1
        have hm24 : (o + c) % 24 < 24 := Nat.mod_lt _ (by decide)
        obtain ⟨I1, D1, k0, k1, k2, k3, k4, k5, k6, k7⟩ := c_keep (Z := Z) h.2.2.2.2.2.2 h.2.2.2.2.2.1 a1 a2 a3 a4
        have hc1 := keep9 (by omega) hc hwf k2 (by omega) k3
        have hx1 : I1 (31 + 2 * k) = I (31 + 2 * k) := k2 _ (by omega) (by omega)
        obtain ⟨I2, g1, g2, g3, g4⟩ := c_go (D := D1) (K := K) (n := n) (Z := Z) isW8 (s_R1 hk) (by decide) (show 31 + 2 * k < 8 ∨ 8 + 7 < 31 + 2 * k by omega) hc1 hwf hN hi (show c0' ≤ 8 by omega)
        rw [hx1] at g2 g3
        have hwf2 : wf (wGo r (itm (I (31 + 2 * k)) i c0')).1.1 (N + 1) := wf_go hwf hN _
        have hlen := wGo_len hwf hN (itm (I (31 + 2 * k)) i c0')
        have hgf : (wGo r (itm (I (31 + 2 * k)) i c0')).2.1 < 2 ^ 31 := wGo_f _
        have hll := ledg_len hwf hN (itm (I (31 + 2 * k)) i c0')
        generalize hg : wGo r (itm (I (31 + 2 * k)) i c0') = g at g2 g3 hwf2 hlen hgf hll
        have g2 : CH I2 D1 K n 9 g.1.1 := g2
        obtain ⟨w3, w5, w6, w7, w8, w9, w10, wl⟩ := g3
        have ez : (nI g.2.1 = (0 : Int32)) = (g.2.1 = 0) := z_eq hgf (by decide)
        generalize hI3 : va_up I2 0 (upd (I2 0) 15 (nI g.2.1)) = I3
        have e3 : ∀ x, x ≠ 0 → I3 x = I2 x := fun x hx => by rw [← hI3, va_up_ne _ _ hx]
        have q1 : ∀ x, x ≠ 0 → (x < 8 ∨ 15 < x) → I3 x = I1 x := fun x a b => by rw [e3 x a]; exact g4 x b
        have q0 : ∀ x, x ≠ 0 → (x < 8 ∨ 15 < x) → (x < 46 + 4 * ((o + c) % 24) ∨ 46 + 4 * ((o + c) % 24) + 2 < x) → I3 x = I x := fun x a b d => by rw [q1 x a b, k2 x d a]
        have e30 : ∀ j, j ≠ 15 → I3 0 j = I1 0 j := fun j hj => by rw [← hI3, va_up_self, pk_un hj, g4 0 (by omega)]
        have ec : f_X11_errand (enc I D K n Z) 0 (nI k) (nI i) (nI c0') = some (if g.2.1 = 0 then nI g.2.2 else -1000010 - nI g.2.1, enc I3 D1 K n Z) := by
          simp only [f_X11_errand, r0_3, bA_s, c9, c_stands9 h9 hc.1.1 r18, b2_s, if_neg hz, if_neg one0, c_bad, if_pos hb, if_true, c0, l1, k0, r0_2, r0_0, aldn_e s_1 k hk (show 8 < 2 ^ 31 by decide), k3 1 (by omega), h.2.2.2.2.2.1.1 k hk, gN_e (s_R hk) 0 rfl, c8, g1, g8_10, w10, ez]
          by_cases e : g.2.1 = 0
          · have hI3' : va_up I2 0 (upd (I2 0) 15 0) = I3 := by rw [← hI3, e]; rfl
            simp only [if_pos e, r0_2, bA_s, g8_9, w9, c0, f_X11_well, p0_15, b2_s, hI3']
          · simp only [if_neg e, r0_2, bA_s, g8_10, w10, c0, f_X11_found, p0_15, b2_s, hI3]
        -- the reference
        have tt : ∀ x, x ≠ 162 → x ≠ 0 → (x < 8 ∨ 15 < x) → (x < 46 + 4 * ((o + c) % 24) ∨ 46 + 4 * ((o + c) % 24) + 2 < x) → thr I3 x = I x := fun x a b d e => by rw [thr_n a, q0 x b d e]
        obtain ⟨J1, m1, m2, m3, m4⟩ := l2 (thr I3) D1 K n (tt 163 (by decide) (by decide) (by omega) (by omega)) (tt 164 (by decide) (by decide) (by omega) (by omega)) (tt 165 (by decide) (by decide) (by omega) (by omega))
        have t162 : thr I3 162 = upd (I 162) 0 0 := by unfold thr; rw [va_up_self, q0 162 (by decide) (by omega) (by omega)]
        have hM3 : MH (thr I3 166) r := by rw [tt 166 (by decide) (by decide) (by omega) (by omega)]; exact hM
        have h9c : J1 162 9 = nI c := by rw [m3, pk_un (by decide), t162, pk_un (by decide)]; exact a5
        obtain ⟨J2, b0, b1, b2', b3, b4, b5⟩ := m_keep (D := D1) (K := K) (n := n) (Z := Z) a2 h9c
        have j2 : ∀ x, x ≠ 162 → x ≠ 169 → x ≠ 171 → J2 x = thr I3 x := fun x a b d => by rw [b1 x b a, m2 x a d]
        have hMJ : MH (J2 166) r := by rw [j2 166 (by decide) (by decide) (by decide)]; exact hM3
        obtain ⟨J3, d1, d2, d3, d4⟩ := m_go (D := D1) (K := K) (n := n) (Z := Z) R166 hMJ hwf hN (show c0' ≤ 8 by omega)
        have hit : itm (J2 171) 0 c0' = itm (I (31 + 2 * k)) i c0' := itm_eq c0' 0 i (fun t ht => by rw [Nat.zero_add, b1 171 (by decide) (by decide), m4 t ht])
        rw [hit, hg] at d1 d2 d3
        obtain ⟨J4, p1, p2, p3, p4, p5⟩ := m_tell (D := D1) (K := K) (n := n) (Z := Z) hlen hgf d3 (nI k) (nI i) (nI c0') (0 : Int32)
        have em : f_X12_errand (enc I3 D1 K n Z) 162 (nI k) (nI i) (nI c0') = some (if g.2.1 = 0 then nI g.2.2 else -1000010 - nI g.2.1, enc J4 D1 K n Z) := by
          rw [← p1]
          simp only [f_X12_errand, p_thr, bA_s, c162, m_isThere hM3 r18, b2_s, if_neg hz, if_neg one0, m_isErrand, if_pos hb, m1, if_true, b0, r162_5, d1]
        have s162 : ∀ j, j ≠ 0 → j ≠ 1 → j ≠ 9 → j ≠ 27 → (j < 21 ∨ 25 < j) → J4 162 j = I 162 j := fun j u0 u1 u2 u3 u4 => by
          rw [p4 j u3 u1, d4.2 j u4, b2' j u2, m3, pk_un u1, t162, pk_un u0]
        have s4 : ∀ x, x ≠ 162 → x ≠ 166 → x ≠ 169 → x ≠ 171 → x ≠ 172 → x ≠ 173 → J4 x = I3 x := fun x u0 u1 u2 u3 u4 u5 => by
          rw [p3 x u0 u5, d4.1 x u0 u4 u1, j2 x u0 u2 u3, thr_n u0]
        have s5 : ∀ x, x ≠ 162 → x ≠ 166 → x ≠ 169 → x ≠ 171 → x ≠ 172 → x ≠ 173 → x ≠ 0 → (x < 8 ∨ 15 < x) → (x < 46 + 4 * ((o + c) % 24) ∨ 46 + 4 * ((o + c) % 24) + 2 < x) → J4 x = I x := fun x u0 u1 u2 u3 u4 u5 u6 u7 u8 => by
          rw [s4 x u0 u1 u2 u3 u4 u5, q0 x u6 u7 u8]
        have s0 : J4 0 = I3 0 := s4 0 (by decide) (by decide) (by decide) (by decide) (by decide) (by decide)
        have gDK : DK I K n J4 K n := DK.of (fun q hq => s5 q (by omega) (by omega) (by omega) (by omega) (by omega) (by omega) (by omega) (by omega) (by omega))
        have gDK2 : DK I2 K n J4 K n := DK.of (fun q hq => by rw [s4 q (by omega) (by omega) (by omega) (by omega) (by omega) (by omega), e3 q (by omega)])
        have st1 : J4 162 1 = nI g.2.1 := by
          rw [p5]
          by_cases e : g.2.1 = 0
          · rw [if_pos e, d4.2 1 (by omega), b2' 1 (by decide), m3, pk_us, e]; rfl
          · rw [if_neg e]
        refine ⟨_, enc I3 D1 K n Z, J4, D1, K, n, ec, em, ?_⟩
        refine h.acted (by omega) ⟨fun x hx => s5 x (by omega) (by omega) (by omega) (by omega) (by omega) (by omega) (by omega) (by omega) (by omega), ?_, ?_, fun j hj => s162 j (by omega) (by omega) (by omega) (by omega) (by omega)⟩ (fun x hx => k3 x (by omega)) gDK k4 ?_ ?_ ⟨g.1.1, ?_, ?_, Or.inl hwf2⟩ ?_
        · rw [s0, e30 14 (by decide)]; exact k7 14 (by decide) (by decide)
        · rw [s5 2 (by decide) (by decide) (by decide) (by decide) (by decide) (by decide) (by decide) (by omega) (by omega)]
        · rw [st1, s0, ← hI3, va_up_self, pk_us]
        · refine ⟨(ledg g.1 g.2.1).length, hll, ?_, p2.1, fun j hj => ?_⟩
          · rw [s4 13 (by decide) (by decide) (by decide) (by decide) (by decide) (by decide), e3 13 (by decide)]; exact wl.1
          · rw [s4 14 (by decide) (by decide) (by decide) (by decide) (by decide) (by decide), e3 14 (by decide), p2.2 j hj]; exact wl.2 j hj
        · refine g2.move hwf2.le8.1 hwf2.le8.2 (HF.self ?_ ?_ ?_ rfl) gDK2
          · rw [s4 9 (by decide) (by decide) (by decide) (by decide) (by decide) (by decide), e3 9 (by decide)]
          · rw [s4 (9 + 1) (by decide) (by decide) (by decide) (by decide) (by decide) (by decide), e3 (9 + 1) (by decide)]
          · rw [s4 (9 + 2) (by decide) (by decide) (by decide) (by decide) (by decide) (by decide), e3 (9 + 2) (by decide)]
        · rw [p3 166 (by decide) (by decide)]; exact d2
        · have t169 : J1 169 = I 169 := by rw [m2 169 (by decide) (by decide), tt 169 (by decide) (by decide) (by omega) (by omega)]
          have t166 : J1 166 = I 166 := by rw [m2 166 (by decide) (by decide), tt 166 (by decide) (by decide) (by omega) (by omega)]
          have u169 : J4 169 = J2 169 := by rw [p3 169 (by decide) (by decide), d4.1 169 (by decide) (by decide) (by decide)]
          have act : ∀ x, 46 ≤ x → x < 142 → J4 x = I1 x := fun x u v => by rw [s4 x (by omega) (by omega) (by omega) (by omega) (by omega) (by omega), q1 x (by omega) (by omega)]
          refine acts_push a1 a2 a6 hc hM hwf (by omega) gDK ⟨fun j a b => ?_, fun j a => ?_, fun j a => ?_, k1.2.2.2⟩ (fun t ht hne => HF.self ?_ ?_ ?_ ?_) (by rw [s0, e30 12 (by decide)]; exact k5) (by rw [s0, e30 13 (by decide)]; exact k6) ?_ (fun i' j a b => ?_) (fun j a => ?_)
          · rw [act _ (by omega) (by omega)]; exact k1.1 j a b
          · rw [act _ (by omega) (by omega)]; exact k1.2.1 j a
          · rw [act _ (by omega) (by omega)]; exact k1.2.2.1 j a
          · rw [act _ (by omega) (by omega)]; exact k2 _ (by omega) (by omega)
          · rw [act _ (by omega) (by omega)]; exact k2 _ (by omega) (by omega)
          · rw [act _ (by omega) (by omega)]; exact k2 _ (by omega) (by omega)
          · exact k3 _ (by omega)
          · rw [p4 9 (by decide) (by decide), d4.2 9 (by omega)]; exact b3
          · rw [u169, b4 i' j a b, t169]
          · rw [u169, b5 j a, t166]
    · exact k_errand_b h hc hM r18 hz x y z hb
end Errand2
