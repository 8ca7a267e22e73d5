/-! THE START OF THE LAW: the tables give the world -/
def hp0 : Hp := (0, fun _ => .inl (0, 0, fun _ => 0))
theorem bw_in : ∀ w ∈ bwN, w ∈ lw_tbl := by
  intro w hw
  simp only [bwN, List.mem_cons, List.not_mem_nil, or_false] at hw
  rcases hw with rfl | rfl | rfl | rfl | rfl | rfl | rfl | rfl | rfl | rfl | rfl | rfl | rfl
  · exact mn_X11_17
  · exact mn_X7_17
  · exact mn_X11_24
  · exact mn_X10_11
  · exact mn_X11_69
  · exact mn_X11_70
  · exact ca_X0_X2
  · exact ca_X1_X2
  · exact ca_X5_X2
  · exact ca_X9_X2
  · exact ca_X4_X2
  · exact de_X2_loud
  · exact de_X2_sort
theorem kk_start {s : State} {b : Nat} (hts : ∀ w ∈ lw_tbl, w.before #[Value.ref b] s = true) : ∃ d : DD, KK d s := by
  have hg : ∀ w ∈ gw, w.before #[Value.ref b] s = true := fun w hw => hts w (List.mem_filter.mp hw).1
  obtain ⟨c0, i0, k0⟩ := u_known (C := RX0) (T := TX0) (N := 4) (n := 4) hg inX0 (hg _ ins_X0)
  obtain ⟨c1, i1, k1⟩ := u_known (C := RX1) (T := TX1) (N := 4) (n := 4) hg inX1 (hg _ ins_X1)
  obtain ⟨c2, i2, k2⟩ := u_known (C := RX3) (T := TX3) (N := 9) (n := 9) hg inX3 (hg _ ins_X3)
  obtain ⟨c3, i3, k3⟩ := u_known (C := RX4) (T := TX4) (N := 4) (n := 4) hg inX4 (hg _ ins_X4)
  obtain ⟨c4, i4, k4⟩ := u_known (C := RX5) (T := TX5) (N := 4) (n := 4) hg inX5 (hg _ ins_X5)
  obtain ⟨c5, i5, k5⟩ := u_known (C := RX6) (T := TX6) (N := 2) (n := 2) hg inX6 (hg _ ins_X6)
  obtain ⟨c6, i6, k6⟩ := u_known (C := RX7) (T := TX7) (N := 5) (n := 5) hg inX7 (hg _ ins_X7)
  obtain ⟨c7, i7, k7⟩ := u_known (C := RX8) (T := TX8) (N := 3) (n := 3) hg inX8 (hg _ ins_X8)
  obtain ⟨c8, i8, k8⟩ := u_known (C := RX9) (T := TX9) (N := 4) (n := 4) hg inX9 (hg _ ins_X9)
  obtain ⟨c9, i9, k9⟩ := u_known (C := RX10) (T := TX10) (N := 11) (n := 11) hg inX10 (hg _ ins_X10)
  obtain ⟨c10, i10, k10⟩ := u_known (C := RX11) (T := TX11) (N := 16) (n := 16) hg inX11 (hg _ ins_X11)
  obtain ⟨c11, i11, k11⟩ := u_known (C := RX12) (T := TX12) (N := 32) (n := 32) hg inX12 (hg _ ins_X12)
  obtain ⟨aI, kI, pI, fI1, fI2, fI3⟩ := Cond.arrayClass_spec (hg _ ac_int)
  obtain ⟨aZ, kZ, pZ, fZ1, fZ2, fZ3⟩ := Cond.arrayClass_spec (hg _ ac_boolean)
  obtain ⟨pR, aR, kR, fR1, -, fR2, fR3, fR4⟩ := Cond.arrayOver_spec (hts _ ao_X8)
  obtain ⟨pH, aH, kH, fH1, -, fH2, fH3, fH4⟩ := Cond.arrayOver_spec (hts _ ao_X3)
  obtain ⟨pD, aD, kD, fD1, -, fD2, fD3, fD4⟩ := Cond.arrayOver_spec (hts _ ao_X2)
  refine ⟨(fun k => if k = 0 then c0 else if k = 1 then c1 else if k = 2 then c2 else if k = 3 then c3 else if k = 4 then c4 else if k = 5 then c5 else if k = 6 then c6 else if k = 7 then c7 else if k = 8 then c8 else if k = 9 then c9 else if k = 10 then c10 else c11, fun k => if k = 0 then i0 else if k = 1 then i1 else if k = 2 then i2 else if k = 3 then i3 else if k = 4 then i4 else if k = 5 then i5 else if k = 6 then i6 else if k = 7 then i7 else if k = 8 then i8 else if k = 9 then i9 else if k = 10 then i10 else i11, fun k => if k = 0 then aI else if k = 1 then aZ else if k = 2 then aR else if k = 3 then aH else aD), ⟨?_, ?_⟩, fun w hw => va_Nw.of (bwN_tab w hw) (hts w (bw_in w hw)), va_AO.of (hts _ ao_X8), va_AO.of (hts _ ao_X3), va_AO.of (hts _ ao_X2)⟩
  · intro k q hq
    match k, hq with
    | 0, hq => cases hq; exact k0
    | 1, hq => cases hq; exact k1
    | 2, hq => cases hq; exact k2
    | 3, hq => cases hq; exact k3
    | 4, hq => cases hq; exact k4
    | 5, hq => cases hq; exact k5
    | 6, hq => cases hq; exact k6
    | 7, hq => cases hq; exact k7
    | 8, hq => cases hq; exact k8
    | 9, hq => cases hq; exact k9
    | 10, hq => cases hq; exact k10
    | 11, hq => cases hq; exact k11
    | k + 12, hq => simp [vwCl] at hq
  · intro k q hq
    match k, hq with
    | 0, hq => cases hq; exact ⟨fun n z => ⟨fun _ h => (by cases h), kI, fI2, pI, fI3⟩, fI1⟩
    | 1, hq => cases hq; exact ⟨fun n z => ⟨fun _ h => (by cases h), kZ, fZ2, pZ, fZ3⟩, fZ1⟩
    | 2, hq => cases hq; exact ⟨fun n z => ⟨fun _ h => (by cases h), kR, fR2, pR, fR3⟩, kR, pR, fR2, fR3, fR1, fR4⟩
    | 3, hq => cases hq; exact ⟨fun n z => ⟨fun _ h => (by cases h), kH, fH2, pH, fH3⟩, kH, pH, fH2, fH3, fH1, fH4⟩
    | 4, hq => cases hq; exact ⟨fun n z => ⟨fun _ h => (by cases h), kD, fD2, pD, fD3⟩, kD, pD, fD2, fD3, fD1, fD4⟩
    | k + 5, hq => simp [tysL] at hq
/-- what is left: the law's function answers 1 on every script -/
def LawPure : Prop := ∀ (xs : Nat → Int32) (L : Nat), L ≤ 3584 → ∃ h' : Hp, f_L_law xs L hp0 = some ((1 : Int32), h')
theorem start_of (hpure : LawPure) {p : Program} {e : Env} {s : State} {m : MethodId} {below : List Frame} {meth : Method} {c : Code} (l : Launch) {b L : Nat} {xs : Nat → Int32} (hL : L ≤ 3584) (C0 : lw_At p s m meth c b L xs) : W p l e room_1 s m #[Value.ref b] below meth c s.heap [] 0 0 (lw_Z below #[Value.ref b] s) (entryFrame m ([Value.ref b] : List Value).toArray 4) := by
  obtain ⟨hx, hb, hr, hml, hown, hts, hX, hbl, hlocks, hgv⟩ := C0
  obtain ⟨d, hK⟩ := kk_start hts
  obtain ⟨h', e0⟩ := hpure xs L hL
  have K := w_L_law (G := (p, l, e, room_1, s, m, #[Value.ref b], below, meth, c, lw_Z below #[Value.ref b] s, d, 4)) (lo := s.heap.size) (b := b) ⟨hx, hb, hr, hml, hown, fun w hw => hts w (List.mem_filter.mp hw).1, hlocks, hK, Nat.le_refl _, rfl, rfl⟩ ⟨hX, hbl, rfl, rfl, rfl, rfl⟩ e0
  rw [lg_entry_eq]
  exact K _ s.heap [] (lv_entry [Value.ref b] (Nat.le_of_ble_eq_true rfl)) ⟨rfl, fun a ha => absurd ha (Nat.not_lt_zero a)⟩ va_S.rf
