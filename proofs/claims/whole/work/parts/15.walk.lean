set_option maxRecDepth 100000 in
def f_X10_init (h : Hp) (x0 : Nat) : Option (Hp) := nw h (.inr (.inr (2, [.inr none, .inr none, .inr none, .inl 0, .inl 0, .inl 0, .inl 0, .inl 0, .inl 0]))) fun q2 h1 => bA (f_X3_init h1 q2 ) fun h3 => bA (pV h3 x0 9 0 (.inr (some q2))) fun h12 => nw h12 (.inr (.inr (5, [.inr none, .inl 0]))) fun q14 h13 => bA (f_X6_init h13 q14 (17 : Int32)) fun h15 => bA (pV h15 x0 9 1 (.inr (some q14))) fun h24 => nw h24 (.inl (0, 8, fun _ => 0)) fun q26 h25 => bA (pV h25 x0 9 2 (.inr (some q26))) fun h28 => some h28

theorem m_X10_init : MI yX10_init cX10_init 1 none 0 := ⟨co_X10_init, ini_X10, by decide, by decide +kernel⟩
set_option maxRecDepth 100000 in
set_option maxHeartbeats 4000000 in
theorem k_X10_init {lo : Nat} {h : Hp} {x0 : Nat} {h' : Hp} (e : f_X10_init h x0 = some h') : ∀ l d, AC l d lo yX10_init cX10_init 1 none ({ frames := 2, cells := 7, slots := 83, locals := 45 } : Room) [.ref (lo + x0)] h none h' := by
  intro l d
  refine AC_of (by decide) (Nat.le_of_ble_eq_true rfl) ?_
  intro G C hN _ q
  unfold f_X10_init at e
  show AW G lo 0 0 0 [(0, .ref (lo + x0))] [] h
  refine a_aload_n C dX10_init_0 rfl 0 rfl ?_
  refine a_objinit C ml_X10_3 im_objinit co_objinit (Nat.le_of_ble_eq_true rfl) (Nat.le_of_ble_eq_true rfl) dX10_init_1 ?_
  refine a_aload_n C dX10_init_4 rfl 0 rfl ?_
  refine a_new C cb2 [.inr none, .inr none, .inr none, .inl 0, .inl 0, .inl 0, .inl 0, .inl 0, .inl 0] kl_X10_9 ins_X3 ini_X3 (by decide) rfl (Nat.le_of_ble_eq_true rfl) (Nat.le_of_ble_eq_true rfl) dX10_init_5 ?_
  obtain ⟨q2, h1, e0_q2, e1_h1, e⟩ := nw_some e
  rw [← e0_q2, ← e1_h1]
  show AW G lo 1 9 8 [(0, .ref (lo + x0))] [.ref (lo + q2), .ref (lo + x0)] h1
  refine a_dup C dX10_init_8 rfl ?_
  obtain ⟨h3, e4, e⟩ := bA_some e
  refine a_callIN (as := []) (rest := [.ref (lo + q2), .ref (lo + x0)]) C m_X3_init rfl im_X3_init bn_X10_11 rfl (Nat.le_of_ble_eq_true rfl) (Nat.le_of_ble_eq_true rfl) (Nat.le_of_ble_eq_true rfl) (Nat.le_of_ble_eq_true rfl) (Nat.le_of_ble_eq_true rfl) dX10_init_9 (k_X3_init e4) rfl ?_
  show AW G lo 4 33 12 [(0, .ref (lo + x0))] [.ref (lo + q2), .ref (lo + x0)] h3
  obtain ⟨h12, e11, e⟩ := bA_some e
  refine a_putFR (t := (.object "DoorsBehind$House")) C hN cb9 0 (by decide) fl_X10_12 rfl rfl (by decide +kernel) rfl rfl dX10_init_12 e11 ?_
  refine a_aload_n C dX10_init_15 rfl 0 rfl ?_
  refine a_new C cb5 [.inr none, .inl 0] kl_X10_18 ins_X6 ini_X6 (by decide) rfl (Nat.le_of_ble_eq_true rfl) (Nat.le_of_ble_eq_true rfl) dX10_init_16 ?_
  obtain ⟨q14, h13, e0_q14, e1_h13, e⟩ := nw_some e
  rw [← e0_q14, ← e1_h13]
  show AW G lo 5 35 19 [(0, .ref (lo + x0))] [.ref (lo + q14), .ref (lo + x0)] h13
  refine a_dup C dX10_init_19 rfl ?_
  refine a_bipush (v := (17 : Int32)) C dX10_init_20 (by decide) ?_
  obtain ⟨h15, e16, e⟩ := bA_some e
  refine a_callI (as := [.int (17 : Int32)]) (rest := [.ref (lo + q14), .ref (lo + x0)]) C m_X6_init rfl im_X6_init ml_X10_20 rfl (Nat.le_of_ble_eq_true rfl) (Nat.le_of_ble_eq_true rfl) (Nat.le_of_ble_eq_true rfl) (Nat.le_of_ble_eq_true rfl) (Nat.le_of_ble_eq_true rfl) dX10_init_22 (k_X6_init e16) rfl ?_
  show AW G lo 6 75 25 [(0, .ref (lo + x0))] [.ref (lo + q14), .ref (lo + x0)] h15
  obtain ⟨h24, e23, e⟩ := bA_some e
  refine a_putFR (t := (.object "DoorsBehind$Numbers")) C hN cb9 1 (by decide) fl_X10_23 rfl rfl (by decide +kernel) rfl rfl dX10_init_25 e23 ?_
  refine a_aload_n C dX10_init_28 rfl 0 rfl ?_
  refine a_bipush (v := (8 : Int32)) C dX10_init_29 (by decide) ?_
  refine a_newa (N := 8) C (by decide) (by decide) (Nat.le_of_ble_eq_true rfl) (Nat.le_of_ble_eq_true rfl) (Nat.le_of_ble_eq_true rfl) dX10_init_31 ?_
  obtain ⟨q26, h25, e0_q26, e1_h25, e⟩ := nw_some e
  rw [← e0_q26, ← e1_h25]
  show AW G lo 7 83 33 [(0, .ref (lo + x0))] [.ref (lo + q26), .ref (lo + x0)] h25
  obtain ⟨h28, e27, e⟩ := bA_some e
  refine a_putFR (t := (.array .int)) C hN cb9 2 (by decide) fl_X10_27 rfl rfl (by decide +kernel) rfl rfl dX10_init_33 e27 ?_
  obtain rfl := sp1 e
  exact a_vret C q (Nat.le_of_ble_eq_true rfl) (Nat.le_of_ble_eq_true rfl) dX10_init_36

set_option maxRecDepth 100000 in
def f_X10_outcome (h : Hp) (x0 : Nat) : Option (Int32 × Hp) := bA (gI h x0 9 10) fun g2 => bA (if g2 = 0 then bA (gI h x0 9 9) fun g10 => some g10 else bA (gI h x0 9 10) fun g8 => some ((1000 : Int32) + g8)) fun j4 => some (j4, h)

theorem m_X10_outcome : MI yX10_outcome cX10_outcome 1 (some .int) 0 := ⟨co_X10_outcome, ini_X10, by decide, by decide +kernel⟩
set_option maxRecDepth 100000 in
set_option maxHeartbeats 4000000 in
theorem k_X10_outcome {lo : Nat} {h : Hp} {x0 : Nat} {r : Int32} {h' : Hp} (e : f_X10_outcome h x0 = some (r, h')) : ∀ l d, AC l d lo yX10_outcome cX10_outcome 1 (some .int) ({ frames := 0, cells := 0, slots := 0, locals := 0 } : Room) [.ref (lo + x0)] h (some (.int r)) h' := by
  intro l d
  refine AC_of (by decide) (Nat.le_of_ble_eq_true rfl) ?_
  intro G C _ _ q
  unfold f_X10_outcome at e
  show AW G lo 0 0 0 [(0, .ref (lo + x0))] [] h
  refine a_aload_n C dX10_outcome_0 rfl 0 rfl ?_
  obtain ⟨g2, e1, e⟩ := bA_some e
  refine a_getI C cb9 10 (by decide) fl_X10_34 rfl dX10_outcome_1 e1 ?_
  obtain ⟨j4, eb6, e⟩ := bA_some e
  have jj5 : AW G lo 0 0 22 [(0, .ref (lo + x0))] [.int j4] h := by
    obtain ⟨rfl, rfl⟩ := sp2 e
    exact a_iret C q (Nat.le_of_ble_eq_true rfl) (Nat.le_of_ble_eq_true rfl) dX10_outcome_22
  have e := eb6
  refine a_if_ne (tgt := 14) C dX10_outcome_4 (by decide) (fun c3 => ?_) (fun c3 => ?_)
  · have e := iN c3 e
    refine a_sipush (v := (1000 : Int32)) C dX10_outcome_14 (by decide) ?_
    refine a_aload_n C dX10_outcome_17 rfl 0 rfl ?_
    obtain ⟨g8, e7, e⟩ := bA_some e
    refine a_getI C cb9 10 (by decide) fl_X10_34 rfl dX10_outcome_18 e7 ?_
    refine a_iadd C dX10_outcome_21 ?_
    obtain rfl := sp1 e
    exact a_widen (Nat.le_of_ble_eq_true rfl) (Nat.le_of_ble_eq_true rfl) (a_sub [0] rfl jj5)
  · have e := ip c3 e
    refine a_aload_n C dX10_outcome_7 rfl 0 rfl ?_
    obtain ⟨g10, e9, e⟩ := bA_some e
    refine a_getI C cb9 9 (by decide) fl_X10_52 rfl dX10_outcome_8 e9 ?_
    refine a_goto (tgt := 22) C dX10_outcome_11 (by decide) ?_
    obtain rfl := sp1 e
    exact a_widen (Nat.le_of_ble_eq_true rfl) (Nat.le_of_ble_eq_true rfl) (a_sub [0] rfl jj5)

set_option maxRecDepth 100000 in
def f_X10_begin (h : Hp) (x0 : Nat) : Option (Hp) := bA (gN h x0 9 1) fun a2 => bA (isC h a2 5) fun u9 => bA (f_X6_clear h a2 ) fun h3 => bA (pV h3 x0 9 3 (.inl (0 : Int32))) fun h13 => bA (pV h13 x0 9 4 (.inl (0 : Int32))) fun h15 => bA (pV h15 x0 9 5 (.inl (0 : Int32))) fun h17 => bA (pV h17 x0 9 6 (.inl (0 : Int32))) fun h19 => bA (pV h19 x0 9 7 (.inl (0 : Int32))) fun h21 => bA (pV h21 x0 9 8 (.inl (0 : Int32))) fun h23 => bA (pV h23 x0 9 9 (.inl (0 : Int32))) fun h25 => bA (pV h25 x0 9 10 (.inl (0 : Int32))) fun h27 => some h27

theorem m_X10_begin : MI yX10_begin cX10_begin 1 none 0 := ⟨co_X10_begin, ini_X10, by decide, by decide +kernel⟩
set_option maxRecDepth 100000 in
set_option maxHeartbeats 4000000 in
theorem k_X10_begin {lo : Nat} {h : Hp} {x0 : Nat} {h' : Hp} (e : f_X10_begin h x0 = some h') : ∀ l d, AC l d lo yX10_begin cX10_begin 1 none ({ frames := 1, cells := 0, slots := 0, locals := 20 } : Room) [.ref (lo + x0)] h none h' := by
  intro l d
  refine AC_of (by decide) (Nat.le_of_ble_eq_true rfl) ?_
  intro G C _ _ q
  unfold f_X10_begin at e
  show AW G lo 0 0 0 [(0, .ref (lo + x0))] [] h
  refine a_aload_n C dX10_begin_0 rfl 0 rfl ?_
  obtain ⟨a2, e1, e⟩ := bA_some e
  refine a_getN C cb9 1 (by decide) fl_X10_23 rfl dX10_begin_1 e1 ?_
  obtain ⟨u9, ec8, e⟩ := bA_some e
  obtain ⟨fs7, eo6⟩ := isC_some ec8
  obtain ⟨h3, e4, e⟩ := bA_some e
  refine a_callV (as := []) (rest := []) C m_X6_clear im_X6_clear cb5 se_X6_X6_clear_X6_clear ml_X10_55 rfl (Nat.le_of_ble_eq_true rfl) (Nat.le_of_ble_eq_true rfl) (Nat.le_of_ble_eq_true rfl) (Nat.le_of_ble_eq_true rfl) (Nat.le_of_ble_eq_true rfl) dX10_begin_4 eo6 (k_X6_clear e4) rfl ?_
  show AW G lo 0 0 7 [(0, .ref (lo + x0))] [] h3
  refine a_aload_n C dX10_begin_7 rfl 0 rfl ?_
  refine a_iconst (v := (0 : Int32)) C dX10_begin_8 (by decide) ?_
  obtain ⟨h13, e12, e⟩ := bA_some e
  refine a_putI C cb9 3 (by decide) fl_X10_49 rfl (by decide +kernel) dX10_begin_9 e12 ?_
  refine a_aload_n C dX10_begin_12 rfl 0 rfl ?_
  refine a_iconst (v := (0 : Int32)) C dX10_begin_13 (by decide) ?_
  obtain ⟨h15, e14, e⟩ := bA_some e
  refine a_putI C cb9 4 (by decide) fl_X10_58 rfl (by decide +kernel) dX10_begin_14 e14 ?_
  refine a_aload_n C dX10_begin_17 rfl 0 rfl ?_
  refine a_iconst (v := (0 : Int32)) C dX10_begin_18 (by decide) ?_
  obtain ⟨h17, e16, e⟩ := bA_some e
  refine a_putI C cb9 5 (by decide) fl_X10_61 rfl (by decide +kernel) dX10_begin_19 e16 ?_
  refine a_aload_n C dX10_begin_22 rfl 0 rfl ?_
  refine a_iconst (v := (0 : Int32)) C dX10_begin_23 (by decide) ?_
  obtain ⟨h19, e18, e⟩ := bA_some e
  refine a_putI C cb9 6 (by decide) fl_X10_64 rfl (by decide +kernel) dX10_begin_24 e18 ?_
  refine a_aload_n C dX10_begin_27 rfl 0 rfl ?_
  refine a_iconst (v := (0 : Int32)) C dX10_begin_28 (by decide) ?_
  obtain ⟨h21, e20, e⟩ := bA_some e
  refine a_putI C cb9 7 (by decide) fl_X10_67 rfl (by decide +kernel) dX10_begin_29 e20 ?_
  refine a_aload_n C dX10_begin_32 rfl 0 rfl ?_
  refine a_iconst (v := (0 : Int32)) C dX10_begin_33 (by decide) ?_
  obtain ⟨h23, e22, e⟩ := bA_some e
  refine a_putI C cb9 8 (by decide) fl_X10_70 rfl (by decide +kernel) dX10_begin_34 e22 ?_
  refine a_aload_n C dX10_begin_37 rfl 0 rfl ?_
  refine a_iconst (v := (0 : Int32)) C dX10_begin_38 (by decide) ?_
  obtain ⟨h25, e24, e⟩ := bA_some e
  refine a_putI C cb9 9 (by decide) fl_X10_52 rfl (by decide +kernel) dX10_begin_39 e24 ?_
  refine a_aload_n C dX10_begin_42 rfl 0 rfl ?_
  refine a_iconst (v := (0 : Int32)) C dX10_begin_43 (by decide) ?_
  obtain ⟨h27, e26, e⟩ := bA_some e
  refine a_putI C cb9 10 (by decide) fl_X10_34 rfl (by decide +kernel) dX10_begin_44 e26 ?_
  obtain rfl := sp1 e
  exact a_vret C q (Nat.le_of_ble_eq_true rfl) (Nat.le_of_ble_eq_true rfl) dX10_begin_47

set_option maxRecDepth 100000 in
def f_X10_open (h : Hp) (x0 : Nat) (x1 : Nat) : Option (Int32 × Hp) := bA (gN h x0 9 0) fun a2 => bA (gD h x1 0) fun g4 => bA (isC h a2 2) fun u11 => b2 (f_X3_lacksDoor h a2 g4) fun r7 h5 => (if r7 = 0 then bA (gI h5 x0 9 3) fun g16 => bA (gN h5 x0 9 2) fun a18 => bA (aln h5 a18 0) fun n19 => (if g16 < n19 then bA (gN h5 x0 9 0) fun a23 => bA (gN h5 a23 2 1) fun a25 => bA (gD h5 x1 0) fun g27 => bA (ald h5 a25 0 g27) fun v28 => bA (gC h5 x1) fun c36 => b2 (v_X2_keyBit c36 h5 x1 ) fun r32 h30 => bA (gN h30 x0 9 0) fun a39 => bA (gI h30 a39 2 7) fun g41 => (if (g41 &&& r32) = r32 then bA (gC h30 x1) fun c49 => b2 (v_X2_isBroken c49 h30 x1 v28) fun r45 h43 => (if r45 = 0 then bA (gN h43 x0 9 1) fun a53 => bA (gD h43 x1 0) fun g55 => bA (isC h43 a53 5) fun u62 => bA (f_X6_add h43 a53 ((100 : Int32) + g55)) fun h56 => bA (gN h56 x0 9 2) fun a66 => bA (gI h56 x0 9 3) fun g68 => bA (gD h56 x1 0) fun g70 => bA (ast h56 a66 0 g68 g70) fun h71 => bA (gI h71 x0 9 3) fun g74 => bA (pV h71 x0 9 3 (.inl (g74 + (1 : Int32)))) fun h76 => bA (gI h76 x0 9 4) fun g78 => bA (gD h76 x1 0) fun g80 => bA (pV h76 x0 9 4 (.inl (g78 ||| ((1 : Int32) <<< (g80 &&& 31))))) fun h82 => bA (gI h82 x0 9 8) fun g84 => bA (pV h82 x0 9 8 (.inl (g84 ||| r32))) fun h86 => bA (gI h86 x0 9 6) fun g88 => bA (gC h86 x1) fun c95 => b2 (v_X2_loud c95 h86 x1 v28) fun r91 h89 => bA (pV h89 x0 9 6 (.inl (g88 + r91))) fun h98 => bA (gI h98 x0 9 7) fun g100 => bA (gC h98 x1) fun c107 => b2 (v_X2_gap c107 h98 x1 ) fun r103 h101 => bA (pV h101 x0 9 7 (.inl (g100 + r103))) fun h110 => bA (gN h110 x0 9 0) fun a112 => bA (gN h110 a112 2 1) fun a114 => bA (gD h110 x1 0) fun g116 => bA (ast h110 a114 0 g116 (v28 + (1 : Int32))) fun h117 => bA (gI h117 x0 9 6) fun g120 => bA (gN h117 x0 9 0) fun a122 => bA (gI h117 a122 2 6) fun g124 => (if g120 ≤ g124 then bA (gI h117 x0 9 7) fun g127 => bA (gN h117 x0 9 0) fun a129 => bA (gI h117 a129 2 5) fun g131 => bA (if g127 ≤ g131 then some (0 : Int32) else some (10 : Int32)) fun j133 => some (j133, h117) else some ((9 : Int32), h117)) else some ((8 : Int32), h43)) else some ((7 : Int32), h30)) else some ((6 : Int32), h5)) else some ((6 : Int32), h5))

theorem m_X10_open : MI yX10_open cX10_open 4 (some .int) 1 := ⟨co_X10_open, ini_X10, by decide, by decide +kernel⟩
set_option maxRecDepth 100000 in
set_option maxHeartbeats 4000000 in
theorem k_X10_open {lo : Nat} {h : Hp} {x0 : Nat} {x1 : Nat} {r : Int32} {h' : Hp} (e : f_X10_open h x0 x1 = some (r, h')) : ∀ l d, AC l d lo yX10_open cX10_open 4 (some .int) ({ frames := 1, cells := 0, slots := 0, locals := 24 } : Room) [.ref (lo + x0), .ref (lo + x1)] h (some (.int r)) h' := by
  intro l d
  refine AC_of (by decide) (Nat.le_of_ble_eq_true rfl) ?_
  intro G C _ _ q
  unfold f_X10_open at e
  show AW G lo 0 0 0 [(0, .ref (lo + x0)), (1, .ref (lo + x1))] [] h
  refine a_aload_n C dX10_open_0 rfl 0 rfl ?_
  obtain ⟨a2, e1, e⟩ := bA_some e
  refine a_getN C cb9 0 (by decide) fl_X10_12 rfl dX10_open_1 e1 ?_
  refine a_aload_n C dX10_open_4 rfl 1 rfl ?_
  obtain ⟨g4, e3, e⟩ := bA_some e
  refine a_getD C 0 (by decide) fl_X10_83 (Or.inl rfl) dX10_open_5 e3 ?_
  obtain ⟨u11, ec10, e⟩ := bA_some e
  obtain ⟨fs9, eo8⟩ := isC_some ec10
  obtain ⟨r7, h5, e6, e⟩ := b2_some e
  refine a_callV (as := [.int g4]) (rest := []) C m_X3_lacksDoor im_X3_lacksDoor cb2 se_X3_X3_lacksDoor_X3_lacksDoor ml_X10_93 rfl (Nat.le_of_ble_eq_true rfl) (Nat.le_of_ble_eq_true rfl) (Nat.le_of_ble_eq_true rfl) (Nat.le_of_ble_eq_true rfl) (Nat.le_of_ble_eq_true rfl) dX10_open_8 eo8 (k_X3_lacksDoor e6) rfl ?_
  show AW G lo 0 0 11 [(0, .ref (lo + x0)), (1, .ref (lo + x1))] [.int r7] h5
  refine a_if_ne (tgt := 26) C dX10_open_11 (by decide) (fun c14 => ?_) (fun c14 => ?_)
  · have e := iN c14 e
    refine a_bipush (v := (6 : Int32)) C dX10_open_26 (by decide) ?_
    obtain ⟨rfl, rfl⟩ := sp2 e
    exact a_iret C q (Nat.le_of_ble_eq_true rfl) (Nat.le_of_ble_eq_true rfl) dX10_open_28
  · have e := ip c14 e
    refine a_aload_n C dX10_open_14 rfl 0 rfl ?_
    obtain ⟨g16, e15, e⟩ := bA_some e
    refine a_getI C cb9 3 (by decide) fl_X10_49 rfl dX10_open_15 e15 ?_
    refine a_aload_n C dX10_open_18 rfl 0 rfl ?_
    obtain ⟨a18, e17, e⟩ := bA_some e
    refine a_getN C cb9 2 (by decide) fl_X10_27 rfl dX10_open_19 e17 ?_
    obtain ⟨n19, e20, e⟩ := bA_some e
    refine a_aln C dX10_open_22 e20 ?_
    refine a_icmp_lt (tgt := 29) C dX10_open_23 (by decide) (fun c21 => ?_) (fun c21 => ?_)
    · have e := ip c21 e
      refine a_aload_n C dX10_open_29 rfl 0 rfl ?_
      obtain ⟨a23, e22, e⟩ := bA_some e
      refine a_getN C cb9 0 (by decide) fl_X10_12 rfl dX10_open_30 e22 ?_
      obtain ⟨a25, e24, e⟩ := bA_some e
      refine a_getN C cb2 1 (by decide) fl_X10_96 rfl dX10_open_33 e24 ?_
      refine a_aload_n C dX10_open_36 rfl 1 rfl ?_
      obtain ⟨g27, e26, e⟩ := bA_some e
      refine a_getD C 0 (by decide) fl_X10_83 (Or.inl rfl) dX10_open_37 e26 ?_
      obtain ⟨v28, e29, e⟩ := bA_some e
      refine a_iald C dX10_open_40 e29 ?_
      refine a_istore_n (lv2 := [(2, .int v28), (0, .ref (lo + x0)), (1, .ref (lo + x1))]) C dX10_open_41 rfl (by decide) rfl ?_
      refine a_aload_n C dX10_open_42 rfl 2 rfl ?_
      obtain ⟨c36, ec35, e⟩ := bA_some e
      obtain ⟨fs34, eo33, ed37⟩ := gC_some ec35
      obtain ⟨r32, h30, e31, e⟩ := b2_some e
      refine a_callD (as := []) (rest := []) C (vd_X2_keyBit e31) sam_X2_X2_keyBit du_X2_keyBit (by decide) ml_X10_99 (Nat.le_of_ble_eq_true rfl) (Nat.le_of_ble_eq_true rfl) (Nat.le_of_ble_eq_true rfl) (Nat.le_of_ble_eq_true rfl) (Nat.le_of_ble_eq_true rfl) dX10_open_43 eo33 rfl ?_
      show AW G lo 0 0 46 [(2, .int v28), (0, .ref (lo + x0)), (1, .ref (lo + x1))] [.int r32] h30
      refine a_istore_n (lv2 := [(3, .int r32), (2, .int v28), (0, .ref (lo + x0)), (1, .ref (lo + x1))]) C dX10_open_46 rfl (by decide) rfl ?_
      refine a_aload_n C dX10_open_47 rfl 2 rfl ?_
      obtain ⟨a39, e38, e⟩ := bA_some e
      refine a_getN C cb9 0 (by decide) fl_X10_12 rfl dX10_open_48 e38 ?_
      obtain ⟨g41, e40, e⟩ := bA_some e
      refine a_getI C cb2 7 (by decide) fl_X10_102 rfl dX10_open_51 e40 ?_
      refine a_iload_n C dX10_open_54 rfl 0 rfl ?_
      refine a_iand C dX10_open_55 ?_
      refine a_iload_n C dX10_open_56 rfl 0 rfl ?_
      refine a_icmp_eq (tgt := 63) C dX10_open_57 (by decide) (fun c42 => ?_) (fun c42 => ?_)
      · have e := ip c42 e
        refine a_aload_n C dX10_open_63 rfl 3 rfl ?_
        refine a_iload_n C dX10_open_64 rfl 1 rfl ?_
        obtain ⟨c49, ec48, e⟩ := bA_some e
        obtain ⟨fs47, eo46, ed50⟩ := gC_some ec48
        obtain ⟨r45, h43, e44, e⟩ := b2_some e
        refine a_callD (as := [.int v28]) (rest := []) C (vd_X2_isBroken e44) sam_X2_X2_isBroken du_X2_isBroken (by decide) ml_X10_105 (Nat.le_of_ble_eq_true rfl) (Nat.le_of_ble_eq_true rfl) (Nat.le_of_ble_eq_true rfl) (Nat.le_of_ble_eq_true rfl) (Nat.le_of_ble_eq_true rfl) dX10_open_65 eo46 rfl ?_
        show AW G lo 0 0 68 [(3, .int r32), (2, .int v28), (0, .ref (lo + x0)), (1, .ref (lo + x1))] [.int r45] h43
        refine a_if_eq (tgt := 74) C dX10_open_68 (by decide) (fun c51 => ?_) (fun c51 => ?_)
        · have e := ip c51 e
          refine a_aload_n C dX10_open_74 rfl 2 rfl ?_
          obtain ⟨a53, e52, e⟩ := bA_some e
          refine a_getN C cb9 1 (by decide) fl_X10_23 rfl dX10_open_75 e52 ?_
          refine a_bipush (v := (100 : Int32)) C dX10_open_78 (by decide) ?_
          refine a_aload_n C dX10_open_80 rfl 3 rfl ?_
          obtain ⟨g55, e54, e⟩ := bA_some e
          refine a_getD C 0 (by decide) fl_X10_83 (Or.inl rfl) dX10_open_81 e54 ?_
          refine a_iadd C dX10_open_84 ?_
          obtain ⟨u62, ec61, e⟩ := bA_some e
          obtain ⟨fs60, eo59⟩ := isC_some ec61
          obtain ⟨h56, e57, e⟩ := bA_some e
          refine a_callV (as := [.int ((100 : Int32) + g55)]) (rest := []) C m_X6_add im_X6_add cb5 se_X6_X6_add_X6_add ml_X10_46 rfl (Nat.le_of_ble_eq_true rfl) (Nat.le_of_ble_eq_true rfl) (Nat.le_of_ble_eq_true rfl) (Nat.le_of_ble_eq_true rfl) (Nat.le_of_ble_eq_true rfl) dX10_open_85 eo59 (k_X6_add e57) rfl ?_
          show AW G lo 0 0 88 [(3, .int r32), (2, .int v28), (0, .ref (lo + x0)), (1, .ref (lo + x1))] [] h56
          refine a_aload_n C dX10_open_88 rfl 2 rfl ?_
          obtain ⟨a66, e65, e⟩ := bA_some e
          refine a_getN C cb9 2 (by decide) fl_X10_27 rfl dX10_open_89 e65 ?_
          refine a_aload_n C dX10_open_92 rfl 2 rfl ?_
          obtain ⟨g68, e67, e⟩ := bA_some e
          refine a_getI C cb9 3 (by decide) fl_X10_49 rfl dX10_open_93 e67 ?_
          refine a_aload_n C dX10_open_96 rfl 3 rfl ?_
          obtain ⟨g70, e69, e⟩ := bA_some e
          refine a_getD C 0 (by decide) fl_X10_83 (Or.inl rfl) dX10_open_97 e69 ?_
          obtain ⟨h71, e72, e⟩ := bA_some e
          refine a_iast C dX10_open_100 e72 ?_
          refine a_aload_n C dX10_open_101 rfl 2 rfl ?_
          refine a_dup C dX10_open_102 rfl ?_
          obtain ⟨g74, e73, e⟩ := bA_some e
          refine a_getI C cb9 3 (by decide) fl_X10_49 rfl dX10_open_103 e73 ?_
          refine a_iconst (v := (1 : Int32)) C dX10_open_106 (by decide) ?_
          refine a_iadd C dX10_open_107 ?_
          obtain ⟨h76, e75, e⟩ := bA_some e
          refine a_putI C cb9 3 (by decide) fl_X10_49 rfl (by decide +kernel) dX10_open_108 e75 ?_
          refine a_aload_n C dX10_open_111 rfl 2 rfl ?_
          refine a_dup C dX10_open_112 rfl ?_
          obtain ⟨g78, e77, e⟩ := bA_some e
          refine a_getI C cb9 4 (by decide) fl_X10_58 rfl dX10_open_113 e77 ?_
          refine a_iconst (v := (1 : Int32)) C dX10_open_116 (by decide) ?_
          refine a_aload_n C dX10_open_117 rfl 3 rfl ?_
          obtain ⟨g80, e79, e⟩ := bA_some e
          refine a_getD C 0 (by decide) fl_X10_83 (Or.inl rfl) dX10_open_118 e79 ?_
          refine a_ishl C dX10_open_121 ?_
          refine a_ior C dX10_open_122 ?_
          obtain ⟨h82, e81, e⟩ := bA_some e
          refine a_putI C cb9 4 (by decide) fl_X10_58 rfl (by decide +kernel) dX10_open_123 e81 ?_
          refine a_aload_n C dX10_open_126 rfl 2 rfl ?_
          refine a_dup C dX10_open_127 rfl ?_
          obtain ⟨g84, e83, e⟩ := bA_some e
          refine a_getI C cb9 8 (by decide) fl_X10_70 rfl dX10_open_128 e83 ?_
          refine a_iload_n C dX10_open_131 rfl 0 rfl ?_
          refine a_ior C dX10_open_132 ?_
          obtain ⟨h86, e85, e⟩ := bA_some e
          refine a_putI C cb9 8 (by decide) fl_X10_70 rfl (by decide +kernel) dX10_open_133 e85 ?_
          refine a_aload_n C dX10_open_136 rfl 2 rfl ?_
          refine a_dup C dX10_open_137 rfl ?_
          obtain ⟨g88, e87, e⟩ := bA_some e
          refine a_getI C cb9 6 (by decide) fl_X10_64 rfl dX10_open_138 e87 ?_
          refine a_aload_n C dX10_open_141 rfl 3 rfl ?_
          refine a_iload_n C dX10_open_142 rfl 1 rfl ?_
          obtain ⟨c95, ec94, e⟩ := bA_some e
          obtain ⟨fs93, eo92, ed96⟩ := gC_some ec94
          obtain ⟨r91, h89, e90, e⟩ := b2_some e
          refine a_callD (as := [.int v28]) (rest := [.int g88, .ref (lo + x0)]) C (vd_X2_loud e90) sam_X2_X2_loud du_X2_loud (by decide) ml_X10_108 (Nat.le_of_ble_eq_true rfl) (Nat.le_of_ble_eq_true rfl) (Nat.le_of_ble_eq_true rfl) (Nat.le_of_ble_eq_true rfl) (Nat.le_of_ble_eq_true rfl) dX10_open_143 eo92 rfl ?_
          show AW G lo 0 0 146 [(3, .int r32), (2, .int v28), (0, .ref (lo + x0)), (1, .ref (lo + x1))] [.int r91, .int g88, .ref (lo + x0)] h89
          refine a_iadd C dX10_open_146 ?_
          obtain ⟨h98, e97, e⟩ := bA_some e
          refine a_putI C cb9 6 (by decide) fl_X10_64 rfl (by decide +kernel) dX10_open_147 e97 ?_
          refine a_aload_n C dX10_open_150 rfl 2 rfl ?_
          refine a_dup C dX10_open_151 rfl ?_
          obtain ⟨g100, e99, e⟩ := bA_some e
          refine a_getI C cb9 7 (by decide) fl_X10_67 rfl dX10_open_152 e99 ?_
          refine a_aload_n C dX10_open_155 rfl 3 rfl ?_
          obtain ⟨c107, ec106, e⟩ := bA_some e
          obtain ⟨fs105, eo104, ed108⟩ := gC_some ec106
          obtain ⟨r103, h101, e102, e⟩ := b2_some e
          refine a_callD (as := []) (rest := [.int g100, .ref (lo + x0)]) C (vd_X2_gap e102) sam_X2_X2_gap du_X2_gap (by decide) ml_X10_111 (Nat.le_of_ble_eq_true rfl) (Nat.le_of_ble_eq_true rfl) (Nat.le_of_ble_eq_true rfl) (Nat.le_of_ble_eq_true rfl) (Nat.le_of_ble_eq_true rfl) dX10_open_156 eo104 rfl ?_
          show AW G lo 0 0 159 [(3, .int r32), (2, .int v28), (0, .ref (lo + x0)), (1, .ref (lo + x1))] [.int r103, .int g100, .ref (lo + x0)] h101
          refine a_iadd C dX10_open_159 ?_
          obtain ⟨h110, e109, e⟩ := bA_some e
          refine a_putI C cb9 7 (by decide) fl_X10_67 rfl (by decide +kernel) dX10_open_160 e109 ?_
          refine a_aload_n C dX10_open_163 rfl 2 rfl ?_
          obtain ⟨a112, e111, e⟩ := bA_some e
          refine a_getN C cb9 0 (by decide) fl_X10_12 rfl dX10_open_164 e111 ?_
          obtain ⟨a114, e113, e⟩ := bA_some e
          refine a_getN C cb2 1 (by decide) fl_X10_96 rfl dX10_open_167 e113 ?_
          refine a_aload_n C dX10_open_170 rfl 3 rfl ?_
          obtain ⟨g116, e115, e⟩ := bA_some e
          refine a_getD C 0 (by decide) fl_X10_83 (Or.inl rfl) dX10_open_171 e115 ?_
          refine a_iload_n C dX10_open_174 rfl 1 rfl ?_
          refine a_iconst (v := (1 : Int32)) C dX10_open_175 (by decide) ?_
          refine a_iadd C dX10_open_176 ?_
          obtain ⟨h117, e118, e⟩ := bA_some e
          refine a_iast C dX10_open_177 e118 ?_
          refine a_aload_n C dX10_open_178 rfl 2 rfl ?_
          obtain ⟨g120, e119, e⟩ := bA_some e
          refine a_getI C cb9 6 (by decide) fl_X10_64 rfl dX10_open_179 e119 ?_
          refine a_aload_n C dX10_open_182 rfl 2 rfl ?_
          obtain ⟨a122, e121, e⟩ := bA_some e
          refine a_getN C cb9 0 (by decide) fl_X10_12 rfl dX10_open_183 e121 ?_
          obtain ⟨g124, e123, e⟩ := bA_some e
          refine a_getI C cb2 6 (by decide) fl_X10_114 rfl dX10_open_186 e123 ?_
          refine a_icmp_le (tgt := 195) C dX10_open_189 (by decide) (fun c125 => ?_) (fun c125 => ?_)
          · have e := ip c125 e
            refine a_aload_n C dX10_open_195 rfl 2 rfl ?_
            obtain ⟨g127, e126, e⟩ := bA_some e
            refine a_getI C cb9 7 (by decide) fl_X10_67 rfl dX10_open_196 e126 ?_
            refine a_aload_n C dX10_open_199 rfl 2 rfl ?_
            obtain ⟨a129, e128, e⟩ := bA_some e
            refine a_getN C cb9 0 (by decide) fl_X10_12 rfl dX10_open_200 e128 ?_
            obtain ⟨g131, e130, e⟩ := bA_some e
            refine a_getI C cb2 5 (by decide) fl_X10_117 rfl dX10_open_203 e130 ?_
            obtain ⟨j133, eb135, e⟩ := bA_some e
            have jj134 : AW G lo 0 0 215 [(0, .ref (lo + x0)), (1, .ref (lo + x1)), (2, .int v28), (3, .int r32)] [.int j133] h117 := by
              obtain ⟨rfl, rfl⟩ := sp2 e
              exact a_iret C q (Nat.le_of_ble_eq_true rfl) (Nat.le_of_ble_eq_true rfl) dX10_open_215
            have e := eb135
            refine a_icmp_le (tgt := 214) C dX10_open_206 (by decide) (fun c132 => ?_) (fun c132 => ?_)
            · have e := ip c132 e
              refine a_iconst (v := (0 : Int32)) C dX10_open_214 (by decide) ?_
              obtain rfl := sp1 e
              exact a_widen (Nat.le_of_ble_eq_true rfl) (Nat.le_of_ble_eq_true rfl) (a_sub [2, 3, 1, 0] rfl jj134)
            · have e := iN c132 e
              refine a_bipush (v := (10 : Int32)) C dX10_open_209 (by decide) ?_
              refine a_goto (tgt := 215) C dX10_open_211 (by decide) ?_
              obtain rfl := sp1 e
              exact a_widen (Nat.le_of_ble_eq_true rfl) (Nat.le_of_ble_eq_true rfl) (a_sub [2, 3, 1, 0] rfl jj134)
          · have e := iN c125 e
            refine a_bipush (v := (9 : Int32)) C dX10_open_192 (by decide) ?_
            obtain ⟨rfl, rfl⟩ := sp2 e
            exact a_iret C q (Nat.le_of_ble_eq_true rfl) (Nat.le_of_ble_eq_true rfl) dX10_open_194
        · have e := iN c51 e
          refine a_bipush (v := (8 : Int32)) C dX10_open_71 (by decide) ?_
          obtain ⟨rfl, rfl⟩ := sp2 e
          exact a_iret C q (Nat.le_of_ble_eq_true rfl) (Nat.le_of_ble_eq_true rfl) dX10_open_73
      · have e := iN c42 e
        refine a_bipush (v := (7 : Int32)) C dX10_open_60 (by decide) ?_
        obtain ⟨rfl, rfl⟩ := sp2 e
        exact a_iret C q (Nat.le_of_ble_eq_true rfl) (Nat.le_of_ble_eq_true rfl) dX10_open_62
    · have e := iN c21 e
      refine a_bipush (v := (6 : Int32)) C dX10_open_26 (by decide) ?_
      obtain ⟨rfl, rfl⟩ := sp2 e
      exact a_iret C q (Nat.le_of_ble_eq_true rfl) (Nat.le_of_ble_eq_true rfl) dX10_open_28

set_option maxRecDepth 100000 in
def f_X10_pass (h : Hp) (x0 : Nat) (x1 : Int32) : Option (Int32 × Hp) := bA (gN h x0 9 0) fun a2 => bA (isC h a2 2) fun u9 => b2 (f_X3_doorAt h a2 x1) fun r5 h3 => (match r5 with | none => some ((6 : Int32), h3) | some a12 => bA (gI h3 x0 9 5) fun g14 => bA (gC h3 a12) fun c21 => b2 (v_X2_leadsFrom c21 h3 a12 g14) fun r17 h15 => (if r17 = 0 then some ((6 : Int32), h15) else bA (gI h15 x0 9 4) fun g25 => bA (gD h15 a12 0) fun g27 => b2 (if ((g25 >>> (g27 &&& 31)) &&& (1 : Int32)) = 0 then bA (isC h15 x0 9) fun u39 => b2 (f_X10_open h15 x0 a12) fun r35 h33 => some (r35, h33) else some ((0 : Int32), h15)) fun j29 h30 => bA (if j29 = 0 then bA (gI h30 x0 9 5) fun g47 => bA (gC h30 a12) fun c54 => b2 (v_X2_beyond c54 h30 a12 g47) fun r50 h48 => bA (pV h48 x0 9 5 (.inl r50)) fun h57 => some h57 else some h30) fun h43 => some (j29, h43)))

theorem m_X10_pass : MI yX10_pass cX10_pass 4 (some .int) 1 := ⟨co_X10_pass, ini_X10, by decide, by decide +kernel⟩
set_option maxRecDepth 100000 in
set_option maxHeartbeats 4000000 in
theorem k_X10_pass {lo : Nat} {h : Hp} {x0 : Nat} {x1 : Int32} {r : Int32} {h' : Hp} (e : f_X10_pass h x0 x1 = some (r, h')) : ∀ l d, AC l d lo yX10_pass cX10_pass 4 (some .int) ({ frames := 2, cells := 0, slots := 0, locals := 47 } : Room) [.ref (lo + x0), .int x1] h (some (.int r)) h' := by
  intro l d
  refine AC_of (by decide) (Nat.le_of_ble_eq_true rfl) ?_
  intro G C _ _ q
  unfold f_X10_pass at e
  show AW G lo 0 0 0 [(0, .ref (lo + x0)), (1, .int x1)] [] h
  refine a_aload_n C dX10_pass_0 rfl 0 rfl ?_
  obtain ⟨a2, e1, e⟩ := bA_some e
  refine a_getN C cb9 0 (by decide) fl_X10_12 rfl dX10_pass_1 e1 ?_
  refine a_iload_n C dX10_pass_4 rfl 1 rfl ?_
  obtain ⟨u9, ec8, e⟩ := bA_some e
  obtain ⟨fs7, eo6⟩ := isC_some ec8
  obtain ⟨r5, h3, e4, e⟩ := b2_some e
  refine a_callV (as := [.int x1]) (rest := []) C m_X3_doorAt im_X3_doorAt cb2 se_X3_X3_doorAt_X3_doorAt ml_X10_73 rfl (Nat.le_of_ble_eq_true rfl) (Nat.le_of_ble_eq_true rfl) (Nat.le_of_ble_eq_true rfl) (Nat.le_of_ble_eq_true rfl) (Nat.le_of_ble_eq_true rfl) dX10_pass_5 eo6 (k_X3_doorAt e4) rfl ?_
  show AW G lo 0 0 8 [(0, .ref (lo + x0)), (1, .int x1)] [va_rf (rl lo r5)] h3
  rcases r5 with _ | a12
  · show AW G lo 0 0 8 [(0, .ref (lo + x0)), (1, .int x1)] [.null] h3
    refine a_astore_nN (lv2 := [(2, .null), (0, .ref (lo + x0)), (1, .int x1)]) C dX10_pass_8 rfl (by decide) rfl ?_
    refine a_aload_nN C dX10_pass_9 rfl 0 rfl ?_
    refine a_ifnullN (tgt := 24) C dX10_pass_10 (by decide) ?_
    refine a_bipush (v := (6 : Int32)) C dX10_pass_24 (by decide) ?_
    obtain ⟨rfl, rfl⟩ := sp2 e
    exact a_iret C q (Nat.le_of_ble_eq_true rfl) (Nat.le_of_ble_eq_true rfl) dX10_pass_26
  · show AW G lo 0 0 8 [(0, .ref (lo + x0)), (1, .int x1)] [.ref (lo + a12)] h3
    refine a_astore_n (lv2 := [(2, .ref (lo + a12)), (0, .ref (lo + x0)), (1, .int x1)]) C dX10_pass_8 rfl (by decide) rfl ?_
    refine a_aload_n C dX10_pass_9 rfl 0 rfl ?_
    refine a_ifnull C dX10_pass_10 ?_
    refine a_aload_n C dX10_pass_13 rfl 0 rfl ?_
    refine a_aload_n C dX10_pass_14 rfl 1 rfl ?_
    obtain ⟨g14, e13, e⟩ := bA_some e
    refine a_getI C cb9 5 (by decide) fl_X10_61 rfl dX10_pass_15 e13 ?_
    obtain ⟨c21, ec20, e⟩ := bA_some e
    obtain ⟨fs19, eo18, ed22⟩ := gC_some ec20
    obtain ⟨r17, h15, e16, e⟩ := b2_some e
    refine a_callD (as := [.int g14]) (rest := []) C (vd_X2_leadsFrom e16) sam_X2_X2_leadsFrom du_X2_leadsFrom (by decide) ml_X10_77 (Nat.le_of_ble_eq_true rfl) (Nat.le_of_ble_eq_true rfl) (Nat.le_of_ble_eq_true rfl) (Nat.le_of_ble_eq_true rfl) (Nat.le_of_ble_eq_true rfl) dX10_pass_18 eo18 rfl ?_
    show AW G lo 0 0 21 [(2, .ref (lo + a12)), (0, .ref (lo + x0)), (1, .int x1)] [.int r17] h15
    refine a_if_ne (tgt := 27) C dX10_pass_21 (by decide) (fun c23 => ?_) (fun c23 => ?_)
    · have e := iN c23 e
      refine a_aload_n C dX10_pass_27 rfl 1 rfl ?_
      obtain ⟨g25, e24, e⟩ := bA_some e
      refine a_getI C cb9 4 (by decide) fl_X10_58 rfl dX10_pass_28 e24 ?_
      refine a_aload_n C dX10_pass_31 rfl 0 rfl ?_
      obtain ⟨g27, e26, e⟩ := bA_some e
      refine a_getD C 0 (by decide) fl_X10_83 (Or.inl rfl) dX10_pass_32 e26 ?_
      refine a_ishr C dX10_pass_35 ?_
      refine a_iconst (v := (1 : Int32)) C dX10_pass_36 (by decide) ?_
      refine a_iand C dX10_pass_37 ?_
      obtain ⟨j29, h30, eb32, e⟩ := b2_some e
      have jj31 : AW G lo 0 0 50 [(0, .ref (lo + x0)), (1, .int x1), (2, .ref (lo + a12))] [.int j29] h30 := by
        refine a_istore_n (lv2 := [(3, .int j29), (0, .ref (lo + x0)), (1, .int x1), (2, .ref (lo + a12))]) C dX10_pass_50 rfl (by decide) rfl ?_
        refine a_iload_n C dX10_pass_51 rfl 0 rfl ?_
        obtain ⟨h43, eb45, e⟩ := bA_some e
        have jj44 : AW G lo 0 0 67 [(0, .ref (lo + x0)), (1, .int x1), (2, .ref (lo + a12)), (3, .int j29)] [] h43 := by
          refine a_iload_n C dX10_pass_67 rfl 3 rfl ?_
          obtain ⟨rfl, rfl⟩ := sp2 e
          exact a_iret C q (Nat.le_of_ble_eq_true rfl) (Nat.le_of_ble_eq_true rfl) dX10_pass_68
        have e := eb45
        refine a_if_ne (tgt := 67) C dX10_pass_52 (by decide) (fun c42 => ?_) (fun c42 => ?_)
        · have e := iN c42 e
          obtain rfl := sp1 e
          exact a_widen (Nat.le_of_ble_eq_true rfl) (Nat.le_of_ble_eq_true rfl) (a_sub [1, 2, 3, 0] rfl jj44)
        · have e := ip c42 e
          refine a_aload_n C dX10_pass_55 rfl 1 rfl ?_
          refine a_aload_n C dX10_pass_56 rfl 3 rfl ?_
          refine a_aload_n C dX10_pass_57 rfl 1 rfl ?_
          obtain ⟨g47, e46, e⟩ := bA_some e
          refine a_getI C cb9 5 (by decide) fl_X10_61 rfl dX10_pass_58 e46 ?_
          obtain ⟨c54, ec53, e⟩ := bA_some e
          obtain ⟨fs52, eo51, ed55⟩ := gC_some ec53
          obtain ⟨r50, h48, e49, e⟩ := b2_some e
          refine a_callD (as := [.int g47]) (rest := [.ref (lo + x0)]) C (vd_X2_beyond e49) sam_X2_X2_beyond du_X2_beyond (by decide) ml_X10_90 (Nat.le_of_ble_eq_true rfl) (Nat.le_of_ble_eq_true rfl) (Nat.le_of_ble_eq_true rfl) (Nat.le_of_ble_eq_true rfl) (Nat.le_of_ble_eq_true rfl) dX10_pass_61 eo51 rfl ?_
          show AW G lo 0 0 64 [(3, .int j29), (0, .ref (lo + x0)), (1, .int x1), (2, .ref (lo + a12))] [.int r50, .ref (lo + x0)] h48
          obtain ⟨h57, e56, e⟩ := bA_some e
          refine a_putI C cb9 5 (by decide) fl_X10_61 rfl (by decide +kernel) dX10_pass_64 e56 ?_
          obtain rfl := sp1 e
          exact a_widen (Nat.le_of_ble_eq_true rfl) (Nat.le_of_ble_eq_true rfl) (a_sub [1, 2, 3, 0] rfl jj44)
      have e := eb32
      refine a_if_eq (tgt := 45) C dX10_pass_38 (by decide) (fun c28 => ?_) (fun c28 => ?_)
      · have e := ip c28 e
        refine a_aload_n C dX10_pass_45 rfl 1 rfl ?_
        refine a_aload_n C dX10_pass_46 rfl 0 rfl ?_
        obtain ⟨u39, ec38, e⟩ := bA_some e
        obtain ⟨fs37, eo36⟩ := isC_some ec38
        obtain ⟨r35, h33, e34, e⟩ := b2_some e
        refine a_callV (as := [.ref (lo + a12)]) (rest := []) C m_X10_open im_X10_open cb9 se_X10_X10_open_X10_open ml_X10_86 rfl (Nat.le_of_ble_eq_true rfl) (Nat.le_of_ble_eq_true rfl) (Nat.le_of_ble_eq_true rfl) (Nat.le_of_ble_eq_true rfl) (Nat.le_of_ble_eq_true rfl) dX10_pass_47 eo36 (k_X10_open e34) rfl ?_
        show AW G lo 0 0 50 [(2, .ref (lo + a12)), (0, .ref (lo + x0)), (1, .int x1)] [.int r35] h33
        obtain ⟨rfl, rfl⟩ := sp2 e
        exact a_widen (Nat.le_of_ble_eq_true rfl) (Nat.le_of_ble_eq_true rfl) (a_sub [1, 2, 0] rfl jj31)
      · have e := iN c28 e
        refine a_iconst (v := (0 : Int32)) C dX10_pass_41 (by decide) ?_
        refine a_goto (tgt := 50) C dX10_pass_42 (by decide) ?_
        obtain ⟨rfl, rfl⟩ := sp2 e
        exact a_widen (Nat.le_of_ble_eq_true rfl) (Nat.le_of_ble_eq_true rfl) (a_sub [1, 2, 0] rfl jj31)
    · have e := ip c23 e
      refine a_bipush (v := (6 : Int32)) C dX10_pass_24 (by decide) ?_
      obtain ⟨rfl, rfl⟩ := sp2 e
      exact a_iret C q (Nat.le_of_ble_eq_true rfl) (Nat.le_of_ble_eq_true rfl) dX10_pass_26

set_option maxRecDepth 100000 in
def f_X10_take (h : Hp) (x0 : Nat) : Option (Int32 × Hp) := bA (gN h x0 9 0) fun a2 => bA (gI h x0 9 5) fun g4 => bA (isC h a2 2) fun u11 => b2 (f_X3_lacksRoom h a2 g4) fun r7 h5 => (if r7 = 0 then bA (gN h5 x0 9 0) fun a16 => bA (gN h5 a16 2 0) fun a18 => bA (gI h5 x0 9 5) fun g20 => bA (ald h5 a18 0 g20) fun v21 => (if v21 = 0 then some ((11 : Int32), h5) else bA (gN h5 x0 9 0) fun a25 => bA (gN h5 a25 2 0) fun a27 => bA (gI h5 x0 9 5) fun g29 => bA (ald h5 a27 0 g29) fun v30 => bA (pV h5 x0 9 9 (.inl v30)) fun h33 => bA (gN h33 x0 9 0) fun a35 => bA (gN h33 a35 2 0) fun a37 => bA (gI h33 x0 9 5) fun g39 => bA (ast h33 a37 0 g39 (0 : Int32)) fun h40 => bA (gN h40 x0 9 0) fun a43 => bA (gI h40 a43 2 8) fun g45 => bA (gI h40 x0 9 9) fun g47 => bA (pV h40 a43 2 8 (.inl (g45 + g47))) fun h49 => bA (gN h49 x0 9 1) fun a51 => bA (gI h49 x0 9 5) fun g53 => bA (isC h49 a51 5) fun u60 => bA (f_X6_add h49 a51 ((300 : Int32) + g53)) fun h54 => some ((0 : Int32), h54)) else some ((11 : Int32), h5))

theorem m_X10_take : MI yX10_take cX10_take 1 (some .int) 0 := ⟨co_X10_take, ini_X10, by decide, by decide +kernel⟩
set_option maxRecDepth 100000 in
set_option maxHeartbeats 4000000 in
theorem k_X10_take {lo : Nat} {h : Hp} {x0 : Nat} {r : Int32} {h' : Hp} (e : f_X10_take h x0 = some (r, h')) : ∀ l d, AC l d lo yX10_take cX10_take 1 (some .int) ({ frames := 1, cells := 0, slots := 0, locals := 21 } : Room) [.ref (lo + x0)] h (some (.int r)) h' := by
  intro l d
  refine AC_of (by decide) (Nat.le_of_ble_eq_true rfl) ?_
  intro G C _ _ q
  unfold f_X10_take at e
  show AW G lo 0 0 0 [(0, .ref (lo + x0))] [] h
  refine a_aload_n C dX10_take_0 rfl 0 rfl ?_
  obtain ⟨a2, e1, e⟩ := bA_some e
  refine a_getN C cb9 0 (by decide) fl_X10_12 rfl dX10_take_1 e1 ?_
  refine a_aload_n C dX10_take_4 rfl 0 rfl ?_
  obtain ⟨g4, e3, e⟩ := bA_some e
  refine a_getI C cb9 5 (by decide) fl_X10_61 rfl dX10_take_5 e3 ?_
  obtain ⟨u11, ec10, e⟩ := bA_some e
  obtain ⟨fs9, eo8⟩ := isC_some ec10
  obtain ⟨r7, h5, e6, e⟩ := b2_some e
  refine a_callV (as := [.int g4]) (rest := []) C m_X3_lacksRoom im_X3_lacksRoom cb2 se_X3_X3_lacksRoom_X3_lacksRoom ml_X10_120 rfl (Nat.le_of_ble_eq_true rfl) (Nat.le_of_ble_eq_true rfl) (Nat.le_of_ble_eq_true rfl) (Nat.le_of_ble_eq_true rfl) (Nat.le_of_ble_eq_true rfl) dX10_take_8 eo8 (k_X3_lacksRoom e6) rfl ?_
  show AW G lo 0 0 11 [(0, .ref (lo + x0))] [.int r7] h5
  refine a_if_ne (tgt := 29) C dX10_take_11 (by decide) (fun c14 => ?_) (fun c14 => ?_)
  · have e := iN c14 e
    refine a_bipush (v := (11 : Int32)) C dX10_take_29 (by decide) ?_
    obtain ⟨rfl, rfl⟩ := sp2 e
    exact a_iret C q (Nat.le_of_ble_eq_true rfl) (Nat.le_of_ble_eq_true rfl) dX10_take_31
  · have e := ip c14 e
    refine a_aload_n C dX10_take_14 rfl 0 rfl ?_
    obtain ⟨a16, e15, e⟩ := bA_some e
    refine a_getN C cb9 0 (by decide) fl_X10_12 rfl dX10_take_15 e15 ?_
    obtain ⟨a18, e17, e⟩ := bA_some e
    refine a_getN C cb2 0 (by decide) fl_X10_123 rfl dX10_take_18 e17 ?_
    refine a_aload_n C dX10_take_21 rfl 0 rfl ?_
    obtain ⟨g20, e19, e⟩ := bA_some e
    refine a_getI C cb9 5 (by decide) fl_X10_61 rfl dX10_take_22 e19 ?_
    obtain ⟨v21, e22, e⟩ := bA_some e
    refine a_iald C dX10_take_25 e22 ?_
    refine a_if_ne (tgt := 32) C dX10_take_26 (by decide) (fun c23 => ?_) (fun c23 => ?_)
    · have e := iN c23 e
      refine a_aload_n C dX10_take_32 rfl 0 rfl ?_
      refine a_aload_n C dX10_take_33 rfl 0 rfl ?_
      obtain ⟨a25, e24, e⟩ := bA_some e
      refine a_getN C cb9 0 (by decide) fl_X10_12 rfl dX10_take_34 e24 ?_
      obtain ⟨a27, e26, e⟩ := bA_some e
      refine a_getN C cb2 0 (by decide) fl_X10_123 rfl dX10_take_37 e26 ?_
      refine a_aload_n C dX10_take_40 rfl 0 rfl ?_
      obtain ⟨g29, e28, e⟩ := bA_some e
      refine a_getI C cb9 5 (by decide) fl_X10_61 rfl dX10_take_41 e28 ?_
      obtain ⟨v30, e31, e⟩ := bA_some e
      refine a_iald C dX10_take_44 e31 ?_
      obtain ⟨h33, e32, e⟩ := bA_some e
      refine a_putI C cb9 9 (by decide) fl_X10_52 rfl (by decide +kernel) dX10_take_45 e32 ?_
      refine a_aload_n C dX10_take_48 rfl 0 rfl ?_
      obtain ⟨a35, e34, e⟩ := bA_some e
      refine a_getN C cb9 0 (by decide) fl_X10_12 rfl dX10_take_49 e34 ?_
      obtain ⟨a37, e36, e⟩ := bA_some e
      refine a_getN C cb2 0 (by decide) fl_X10_123 rfl dX10_take_52 e36 ?_
      refine a_aload_n C dX10_take_55 rfl 0 rfl ?_
      obtain ⟨g39, e38, e⟩ := bA_some e
      refine a_getI C cb9 5 (by decide) fl_X10_61 rfl dX10_take_56 e38 ?_
      refine a_iconst (v := (0 : Int32)) C dX10_take_59 (by decide) ?_
      obtain ⟨h40, e41, e⟩ := bA_some e
      refine a_iast C dX10_take_60 e41 ?_
      refine a_aload_n C dX10_take_61 rfl 0 rfl ?_
      obtain ⟨a43, e42, e⟩ := bA_some e
      refine a_getN C cb9 0 (by decide) fl_X10_12 rfl dX10_take_62 e42 ?_
      refine a_dup C dX10_take_65 rfl ?_
      obtain ⟨g45, e44, e⟩ := bA_some e
      refine a_getI C cb2 8 (by decide) fl_X10_125 rfl dX10_take_66 e44 ?_
      refine a_aload_n C dX10_take_69 rfl 0 rfl ?_
      obtain ⟨g47, e46, e⟩ := bA_some e
      refine a_getI C cb9 9 (by decide) fl_X10_52 rfl dX10_take_70 e46 ?_
      refine a_iadd C dX10_take_73 ?_
      obtain ⟨h49, e48, e⟩ := bA_some e
      refine a_putI C cb2 8 (by decide) fl_X10_125 rfl (by decide +kernel) dX10_take_74 e48 ?_
      refine a_aload_n C dX10_take_77 rfl 0 rfl ?_
      obtain ⟨a51, e50, e⟩ := bA_some e
      refine a_getN C cb9 1 (by decide) fl_X10_23 rfl dX10_take_78 e50 ?_
      refine a_sipush (v := (300 : Int32)) C dX10_take_81 (by decide) ?_
      refine a_aload_n C dX10_take_84 rfl 0 rfl ?_
      obtain ⟨g53, e52, e⟩ := bA_some e
      refine a_getI C cb9 5 (by decide) fl_X10_61 rfl dX10_take_85 e52 ?_
      refine a_iadd C dX10_take_88 ?_
      obtain ⟨u60, ec59, e⟩ := bA_some e
      obtain ⟨fs58, eo57⟩ := isC_some ec59
      obtain ⟨h54, e55, e⟩ := bA_some e
      refine a_callV (as := [.int ((300 : Int32) + g53)]) (rest := []) C m_X6_add im_X6_add cb5 se_X6_X6_add_X6_add ml_X10_46 rfl (Nat.le_of_ble_eq_true rfl) (Nat.le_of_ble_eq_true rfl) (Nat.le_of_ble_eq_true rfl) (Nat.le_of_ble_eq_true rfl) (Nat.le_of_ble_eq_true rfl) dX10_take_89 eo57 (k_X6_add e55) rfl ?_
      show AW G lo 0 0 92 [(0, .ref (lo + x0))] [] h54
      refine a_iconst (v := (0 : Int32)) C dX10_take_92 (by decide) ?_
      obtain ⟨rfl, rfl⟩ := sp2 e
      exact a_iret C q (Nat.le_of_ble_eq_true rfl) (Nat.le_of_ble_eq_true rfl) dX10_take_93
    · have e := ip c23 e
      refine a_bipush (v := (11 : Int32)) C dX10_take_29 (by decide) ?_
      obtain ⟨rfl, rfl⟩ := sp2 e
      exact a_iret C q (Nat.le_of_ble_eq_true rfl) (Nat.le_of_ble_eq_true rfl) dX10_take_31

set_option maxRecDepth 100000 in
def f_X10_go_L7 {β : Type} (k : Int32 → Hp → Option (β)) (x0 : Nat) (x1 : Nat) (x2 : Int32) (x3 : Int32) : Nat → Hp → Int32 → Option (β)
  | 0, _, _ => none
  | fuel + 1, h, x4 => (if x3 ≤ x4 then k x4 h else bA (gI h x0 9 10) fun g12 => (if g12 = 0 then b2 (if (x2 + x4) < 0 then some ((6 : Int32), h) else bA (aln h x1 0) fun n19 => (if n19 ≤ (x2 + x4) then some ((6 : Int32), h) else bA (ald h x1 0 (x2 + x4)) fun v22 => bA (isC h x0 9) fun u30 => b2 (f_X10_pass h x0 v22) fun r26 h24 => some (r26, h24))) fun j15 h16 => bA (pV h16 x0 9 10 (.inl j15)) fun h34 => f_X10_go_L7 k x0 x1 x2 x3 fuel h34 (x4 + (1 : Int32)) else k x4 h))

set_option maxRecDepth 100000 in
def f_X10_go_L106 {β : Type} (k : Int32 → Hp → Option (β)) (x0 : Nat) (x1 : Nat) (x2 : Int32) (x3 : Int32) : Nat → Hp → Int32 → Option (β)
  | 0, _, _ => none
  | fuel + 1, h, x4 => (if x4 < 0 then k x4 h else bA (gN h x0 9 1) fun a77 => bA (gN h x0 9 2) fun a79 => bA (ald h a79 0 x4) fun v80 => bA (isC h a77 5) fun u88 => bA (f_X6_add h a77 ((200 : Int32) + v80)) fun h82 => f_X10_go_L106 k x0 x1 x2 x3 fuel h82 (x4 + (-1 : Int32)))

set_option maxRecDepth 100000 in
def f_X10_go (h : Hp) (x0 : Nat) (x1 : Nat) (x2 : Int32) (x3 : Int32) : Option (Hp) := bA (isC h x0 9) fun u7 => bA (f_X10_begin h x0 ) fun h1 => f_X10_go_L7 (fun y36 h35 => bA (gI h35 x0 9 10) fun g38 => bA (if g38 = 0 then bA (isC h35 x0 9) fun u49 => b2 (f_X10_take h35 x0 ) fun r45 h43 => bA (pV h43 x0 9 10 (.inl r45)) fun h53 => some h53 else some h35) fun h40 => bA (gI h40 x0 9 10) fun g55 => bA (if g55 = 0 then some h40 else bA (gN h40 x0 9 1) fun a61 => bA (gI h40 x0 9 10) fun g63 => bA (isC h40 a61 5) fun u70 => bA (f_X6_add h40 a61 ((400 : Int32) + g63)) fun h64 => some h64) fun h57 => bA (gI h57 x0 9 3) fun g74 => f_X10_go_L106 (fun y92 h91 => some h91) x0 x1 x2 x3 2000 h57 (g74 - (1 : Int32))) x0 x1 x2 x3 2000 h1 (0 : Int32)

theorem m_X10_go : MI yX10_go cX10_go 6 none 3 := ⟨co_X10_go, ini_X10, by decide, by decide +kernel⟩
set_option maxRecDepth 100000 in
set_option maxHeartbeats 4000000 in
theorem w_X10_go_L7 {G : Gm} {lo : Nat} {ce sl : Nat} (C : CX G lo cX10_go RX10 none ({ frames := 3, cells := 0, slots := 0, locals := 70 } : Room) 6) {β : Type} {res : β} {k : Int32 → Hp → Option (β)} {x0 : Nat} {x1 : Nat} {x2 : Int32} {x3 : Int32} (hk : ∀ (h : Hp) (x4 : Int32), k x4 h = some res → AW G lo ce sl 61 [(0, .ref (lo + x0)), (1, .ref (lo + x1)), (2, .int x2), (3, .int x3), (4, .int x4)] [] h) (hce : ce ≤ 0) (hsl : sl ≤ 0) : ∀ (fuel : Nat) (h : Hp) (x4 : Int32), f_X10_go_L7 k x0 x1 x2 x3 fuel h x4 = some res → AW G lo ce sl 7 [(0, .ref (lo + x0)), (1, .ref (lo + x1)), (2, .int x2), (3, .int x3), (4, .int x4)] [] h := by
  intro fuel
  induction fuel with
  | zero =>
    intro h x4 e
    cases (show (none : Option (β)) = some res from e)
  | succ fuel ih =>
    intro h x4 e
    rw [f_X10_go_L7] at e
    refine a_iload C dX10_go_7 4 rfl ?_
    refine a_iload_n C dX10_go_9 rfl 3 rfl ?_
    refine a_icmp_ge (tgt := 61) C dX10_go_10 (by decide) (fun c10 => ?_) (fun c10 => ?_)
    · have e := ip c10 e
      exact a_sub [0, 1, 2, 3, 4] rfl (hk _ _ e)
    · have e := iN c10 e
      refine a_aload_n C dX10_go_13 rfl 0 rfl ?_
      obtain ⟨g12, e11, e⟩ := bA_some e
      refine a_getI C cb9 10 (by decide) fl_X10_34 rfl dX10_go_14 e11 ?_
      refine a_if_ne (tgt := 61) C dX10_go_17 (by decide) (fun c13 => ?_) (fun c13 => ?_)
      · have e := iN c13 e
        exact a_sub [0, 1, 2, 3, 4] rfl (hk _ _ e)
      · have e := ip c13 e
        refine a_iload_n C dX10_go_20 rfl 2 rfl ?_
        refine a_iload C dX10_go_21 4 rfl ?_
        refine a_iadd C dX10_go_23 ?_
        refine a_istore (lv2 := [(5, .int (x2 + x4)), (0, .ref (lo + x0)), (1, .ref (lo + x1)), (2, .int x2), (3, .int x3), (4, .int x4)]) C dX10_go_24 (by decide) rfl ?_
        refine a_aload_n C dX10_go_26 rfl 1 rfl ?_
        refine a_iload C dX10_go_27 0 rfl ?_
        obtain ⟨j15, h16, eb18, e⟩ := b2_some e
        have jj17 : AW G lo ce sl 52 [(0, .ref (lo + x0)), (1, .ref (lo + x1)), (2, .int x2), (3, .int x3), (4, .int x4), (5, .int (x2 + x4))] [.int j15, .ref (lo + x0)] h16 := by
          obtain ⟨h34, e33, e⟩ := bA_some e
          refine a_putI C cb9 10 (by decide) fl_X10_34 rfl (by decide +kernel) dX10_go_52 e33 ?_
          refine a_iinc (v := x4 + (1 : Int32)) (lv2 := [(4, .int (x4 + (1 : Int32))), (0, .ref (lo + x0)), (1, .ref (lo + x1)), (2, .int x2), (3, .int x3), (5, .int (x2 + x4))]) C dX10_go_55 4 rfl rfl (by decide) rfl ?_
          refine a_goto (tgt := 7) C dX10_go_58 (by decide) ?_
          exact a_sub [1, 2, 3, 4, 0] rfl (ih _ _ e)
        have e := eb18
        refine a_if_lt (tgt := 50) C dX10_go_29 (by decide) (fun c14 => ?_) (fun c14 => ?_)
        · have e := ip c14 e
          refine a_bipush (v := (6 : Int32)) C dX10_go_50 (by decide) ?_
          obtain ⟨rfl, rfl⟩ := sp2 e
          exact a_widen (Nat.le_refl _) (Nat.le_refl _) (a_sub [1, 2, 3, 4, 5, 0] rfl jj17)
        · have e := iN c14 e
          refine a_iload C dX10_go_32 0 rfl ?_
          refine a_aload_n C dX10_go_34 rfl 2 rfl ?_
          obtain ⟨n19, e20, e⟩ := bA_some e
          refine a_aln C dX10_go_35 e20 ?_
          refine a_icmp_ge (tgt := 50) C dX10_go_36 (by decide) (fun c21 => ?_) (fun c21 => ?_)
          · have e := ip c21 e
            refine a_bipush (v := (6 : Int32)) C dX10_go_50 (by decide) ?_
            obtain ⟨rfl, rfl⟩ := sp2 e
            exact a_widen (Nat.le_refl _) (Nat.le_refl _) (a_sub [1, 2, 3, 4, 5, 0] rfl jj17)
          · have e := iN c21 e
            refine a_aload_n C dX10_go_39 rfl 1 rfl ?_
            refine a_aload_n C dX10_go_40 rfl 2 rfl ?_
            refine a_iload C dX10_go_41 0 rfl ?_
            obtain ⟨v22, e23, e⟩ := bA_some e
            refine a_iald C dX10_go_43 e23 ?_
            obtain ⟨u30, ec29, e⟩ := bA_some e
            obtain ⟨fs28, eo27⟩ := isC_some ec29
            obtain ⟨r26, h24, e25, e⟩ := b2_some e
            refine a_callV (as := [.int v22]) (rest := [.ref (lo + x0)]) C m_X10_pass im_X10_pass cb9 se_X10_X10_pass_X10_pass ml_X10_38 rfl (Nat.le_of_ble_eq_true rfl) (Nat.le_of_ble_eq_true rfl) (by exact hce) (by exact hsl) (Nat.le_of_ble_eq_true rfl) dX10_go_44 eo27 (k_X10_pass e25) rfl ?_
            show AW G lo ce sl 47 [(5, .int (x2 + x4)), (0, .ref (lo + x0)), (1, .ref (lo + x1)), (2, .int x2), (3, .int x3), (4, .int x4)] [.int r26, .ref (lo + x0)] h24
            refine a_goto (tgt := 52) C dX10_go_47 (by decide) ?_
            obtain ⟨rfl, rfl⟩ := sp2 e
            exact a_widen (Nat.le_refl _) (Nat.le_refl _) (a_sub [1, 2, 3, 4, 5, 0] rfl jj17)
set_option maxRecDepth 100000 in
set_option maxHeartbeats 4000000 in
theorem w_X10_go_L106 {G : Gm} {lo : Nat} {ce sl : Nat} (C : CX G lo cX10_go RX10 none ({ frames := 3, cells := 0, slots := 0, locals := 70 } : Room) 6) {β : Type} {res : β} {k : Int32 → Hp → Option (β)} {x0 : Nat} {x1 : Nat} {x2 : Int32} {x3 : Int32} (hk : ∀ (h : Hp) (x4 : Int32), k x4 h = some res → AW G lo ce sl 135 [(0, .ref (lo + x0)), (1, .ref (lo + x1)), (2, .int x2), (3, .int x3), (4, .int x4)] [] h) (hce : ce ≤ 0) (hsl : sl ≤ 0) : ∀ (fuel : Nat) (h : Hp) (x4 : Int32), f_X10_go_L106 k x0 x1 x2 x3 fuel h x4 = some res → AW G lo ce sl 106 [(0, .ref (lo + x0)), (1, .ref (lo + x1)), (2, .int x2), (3, .int x3), (4, .int x4)] [] h := by
  intro fuel
  induction fuel with
  | zero =>
    intro h x4 e
    cases (show (none : Option (β)) = some res from e)
  | succ fuel ih =>
    intro h x4 e
    rw [f_X10_go_L106] at e
    refine a_iload C dX10_go_106 4 rfl ?_
    refine a_if_lt (tgt := 135) C dX10_go_108 (by decide) (fun c75 => ?_) (fun c75 => ?_)
    · have e := ip c75 e
      exact a_sub [0, 1, 2, 3, 4] rfl (hk _ _ e)
    · have e := iN c75 e
      refine a_aload_n C dX10_go_111 rfl 0 rfl ?_
      obtain ⟨a77, e76, e⟩ := bA_some e
      refine a_getN C cb9 1 (by decide) fl_X10_23 rfl dX10_go_112 e76 ?_
      refine a_sipush (v := (200 : Int32)) C dX10_go_115 (by decide) ?_
      refine a_aload_n C dX10_go_118 rfl 0 rfl ?_
      obtain ⟨a79, e78, e⟩ := bA_some e
      refine a_getN C cb9 2 (by decide) fl_X10_27 rfl dX10_go_119 e78 ?_
      refine a_iload C dX10_go_122 4 rfl ?_
      obtain ⟨v80, e81, e⟩ := bA_some e
      refine a_iald C dX10_go_124 e81 ?_
      refine a_iadd C dX10_go_125 ?_
      obtain ⟨u88, ec87, e⟩ := bA_some e
      obtain ⟨fs86, eo85⟩ := isC_some ec87
      obtain ⟨h82, e83, e⟩ := bA_some e
      refine a_callV (as := [.int ((200 : Int32) + v80)]) (rest := []) C m_X6_add im_X6_add cb5 se_X6_X6_add_X6_add ml_X10_46 rfl (Nat.le_of_ble_eq_true rfl) (Nat.le_of_ble_eq_true rfl) (by exact hce) (by exact hsl) (Nat.le_of_ble_eq_true rfl) dX10_go_126 eo85 (k_X6_add e83) rfl ?_
      show AW G lo ce sl 129 [(0, .ref (lo + x0)), (1, .ref (lo + x1)), (2, .int x2), (3, .int x3), (4, .int x4)] [] h82
      refine a_iinc (v := x4 + (-1 : Int32)) (lv2 := [(4, .int (x4 + (-1 : Int32))), (0, .ref (lo + x0)), (1, .ref (lo + x1)), (2, .int x2), (3, .int x3)]) C dX10_go_129 4 rfl rfl (by decide) rfl ?_
      refine a_goto (tgt := 106) C dX10_go_132 (by decide) ?_
      exact a_sub [1, 2, 3, 4, 0] rfl (ih _ _ e)
set_option maxRecDepth 100000 in
set_option maxHeartbeats 4000000 in
theorem k_X10_go {lo : Nat} {h : Hp} {x0 : Nat} {x1 : Nat} {x2 : Int32} {x3 : Int32} {h' : Hp} (e : f_X10_go h x0 x1 x2 x3 = some h') : ∀ l d, AC l d lo yX10_go cX10_go 6 none ({ frames := 3, cells := 0, slots := 0, locals := 70 } : Room) [.ref (lo + x0), .ref (lo + x1), .int x2, .int x3] h none h' := by
  intro l d
  refine AC_of (by decide) (Nat.le_of_ble_eq_true rfl) ?_
  intro G C _ _ q
  unfold f_X10_go at e
  show AW G lo 0 0 0 [(0, .ref (lo + x0)), (1, .ref (lo + x1)), (2, .int x2), (3, .int x3)] [] h
  refine a_aload_n C dX10_go_0 rfl 0 rfl ?_
  obtain ⟨u7, ec6, e⟩ := bA_some e
  obtain ⟨fs5, eo4⟩ := isC_some ec6
  obtain ⟨h1, e2, e⟩ := bA_some e
  refine a_callV (as := []) (rest := []) C m_X10_begin im_X10_begin cb9 se_X10_X10_begin_X10_begin ml_X10_31 rfl (Nat.le_of_ble_eq_true rfl) (Nat.le_of_ble_eq_true rfl) (Nat.le_of_ble_eq_true rfl) (Nat.le_of_ble_eq_true rfl) (Nat.le_of_ble_eq_true rfl) dX10_go_1 eo4 (k_X10_begin e2) rfl ?_
  show AW G lo 0 0 4 [(0, .ref (lo + x0)), (1, .ref (lo + x1)), (2, .int x2), (3, .int x3)] [] h1
  refine a_iconst (v := (0 : Int32)) C dX10_go_4 (by decide) ?_
  refine a_istore (lv2 := [(4, .int (0 : Int32)), (0, .ref (lo + x0)), (1, .ref (lo + x1)), (2, .int x2), (3, .int x3)]) C dX10_go_5 (by decide) rfl ?_
  refine a_sub [1, 2, 3, 4, 0] rfl (w_X10_go_L7 C ?_ (Nat.le_of_ble_eq_true rfl) (Nat.le_of_ble_eq_true rfl) 2000 _ _ e)
  intro h35 y36 e
  show AW G lo 0 0 61 [(0, .ref (lo + x0)), (1, .ref (lo + x1)), (2, .int x2), (3, .int x3), (4, .int y36)] [] h35
  refine a_aload_n C dX10_go_61 rfl 0 rfl ?_
  obtain ⟨g38, e37, e⟩ := bA_some e
  refine a_getI C cb9 10 (by decide) fl_X10_34 rfl dX10_go_62 e37 ?_
  obtain ⟨h40, eb42, e⟩ := bA_some e
  have jj41 : AW G lo 0 0 76 [(0, .ref (lo + x0)), (1, .ref (lo + x1)), (2, .int x2), (3, .int x3), (4, .int y36)] [] h40 := by
    refine a_aload_n C dX10_go_76 rfl 0 rfl ?_
    obtain ⟨g55, e54, e⟩ := bA_some e
    refine a_getI C cb9 10 (by decide) fl_X10_34 rfl dX10_go_77 e54 ?_
    obtain ⟨h57, eb59, e⟩ := bA_some e
    have jj58 : AW G lo 0 0 98 [(0, .ref (lo + x0)), (1, .ref (lo + x1)), (2, .int x2), (3, .int x3), (4, .int y36)] [] h57 := by
      refine a_aload_n C dX10_go_98 rfl 0 rfl ?_
      obtain ⟨g74, e73, e⟩ := bA_some e
      refine a_getI C cb9 3 (by decide) fl_X10_49 rfl dX10_go_99 e73 ?_
      refine a_iconst (v := (1 : Int32)) C dX10_go_102 (by decide) ?_
      refine a_isub C dX10_go_103 ?_
      refine a_istore (lv2 := [(4, .int (g74 - (1 : Int32))), (0, .ref (lo + x0)), (1, .ref (lo + x1)), (2, .int x2), (3, .int x3)]) C dX10_go_104 (by decide) rfl ?_
      refine a_sub [1, 2, 3, 4, 0] rfl (w_X10_go_L106 C ?_ (Nat.le_of_ble_eq_true rfl) (Nat.le_of_ble_eq_true rfl) 2000 _ _ e)
      intro h91 y92 e
      show AW G lo 0 0 135 [(0, .ref (lo + x0)), (1, .ref (lo + x1)), (2, .int x2), (3, .int x3), (4, .int y92)] [] h91
      obtain rfl := sp1 e
      exact a_vret C q (Nat.le_of_ble_eq_true rfl) (Nat.le_of_ble_eq_true rfl) dX10_go_135
    have e := eb59
    refine a_if_eq (tgt := 98) C dX10_go_80 (by decide) (fun c56 => ?_) (fun c56 => ?_)
    · have e := ip c56 e
      obtain rfl := sp1 e
      exact a_widen (Nat.le_of_ble_eq_true rfl) (Nat.le_of_ble_eq_true rfl) (a_sub [0, 1, 2, 3, 4] rfl jj58)
    · have e := iN c56 e
      refine a_aload_n C dX10_go_83 rfl 0 rfl ?_
      obtain ⟨a61, e60, e⟩ := bA_some e
      refine a_getN C cb9 1 (by decide) fl_X10_23 rfl dX10_go_84 e60 ?_
      refine a_sipush (v := (400 : Int32)) C dX10_go_87 (by decide) ?_
      refine a_aload_n C dX10_go_90 rfl 0 rfl ?_
      obtain ⟨g63, e62, e⟩ := bA_some e
      refine a_getI C cb9 10 (by decide) fl_X10_34 rfl dX10_go_91 e62 ?_
      refine a_iadd C dX10_go_94 ?_
      obtain ⟨u70, ec69, e⟩ := bA_some e
      obtain ⟨fs68, eo67⟩ := isC_some ec69
      obtain ⟨h64, e65, e⟩ := bA_some e
      refine a_callV (as := [.int ((400 : Int32) + g63)]) (rest := []) C m_X6_add im_X6_add cb5 se_X6_X6_add_X6_add ml_X10_46 rfl (Nat.le_of_ble_eq_true rfl) (Nat.le_of_ble_eq_true rfl) (Nat.le_of_ble_eq_true rfl) (Nat.le_of_ble_eq_true rfl) (Nat.le_of_ble_eq_true rfl) dX10_go_95 eo67 (k_X6_add e65) rfl ?_
      show AW G lo 0 0 98 [(0, .ref (lo + x0)), (1, .ref (lo + x1)), (2, .int x2), (3, .int x3), (4, .int y36)] [] h64
      obtain rfl := sp1 e
      exact a_widen (Nat.le_of_ble_eq_true rfl) (Nat.le_of_ble_eq_true rfl) (a_sub [0, 1, 2, 3, 4] rfl jj58)
  have e := eb42
  refine a_if_ne (tgt := 76) C dX10_go_65 (by decide) (fun c39 => ?_) (fun c39 => ?_)
  · have e := iN c39 e
    obtain rfl := sp1 e
    exact a_widen (Nat.le_of_ble_eq_true rfl) (Nat.le_of_ble_eq_true rfl) (a_sub [0, 1, 2, 3, 4] rfl jj41)
  · have e := ip c39 e
    refine a_aload_n C dX10_go_68 rfl 0 rfl ?_
    refine a_aload_n C dX10_go_69 rfl 0 rfl ?_
    obtain ⟨u49, ec48, e⟩ := bA_some e
    obtain ⟨fs47, eo46⟩ := isC_some ec48
    obtain ⟨r45, h43, e44, e⟩ := b2_some e
    refine a_callV (as := []) (rest := [.ref (lo + x0)]) C m_X10_take im_X10_take cb9 se_X10_X10_take_X10_take ml_X10_42 rfl (Nat.le_of_ble_eq_true rfl) (Nat.le_of_ble_eq_true rfl) (Nat.le_of_ble_eq_true rfl) (Nat.le_of_ble_eq_true rfl) (Nat.le_of_ble_eq_true rfl) dX10_go_70 eo46 (k_X10_take e44) rfl ?_
    show AW G lo 0 0 73 [(0, .ref (lo + x0)), (1, .ref (lo + x1)), (2, .int x2), (3, .int x3), (4, .int y36)] [.int r45, .ref (lo + x0)] h43
    obtain ⟨h53, e52, e⟩ := bA_some e
    refine a_putI C cb9 10 (by decide) fl_X10_34 rfl (by decide +kernel) dX10_go_73 e52 ?_
    obtain rfl := sp1 e
    exact a_widen (Nat.le_of_ble_eq_true rfl) (Nat.le_of_ble_eq_true rfl) (a_sub [0, 1, 2, 3, 4] rfl jj41)
