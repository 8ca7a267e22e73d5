set_option maxRecDepth 100000 in
def f_X7_init (h : Hp) (x0 : Nat) : Option (Hp) := nw h (.inl (0, 110, fun _ => 0)) fun q2 h1 => bA (pV h1 x0 6 0 (.inr (some q2))) fun h4 => nw h4 (.inr (.inr (2, [.inr none, .inr none, .inr none, .inl 0, .inl 0, .inl 0, .inl 0, .inl 0, .inl 0]))) fun q6 h5 => bA (f_X3_init h5 q6 ) fun h7 => bA (pV h7 x0 6 1 (.inr (some q6))) fun h16 => some h16

theorem m_X7_init : MI yX7_init cX7_init 1 none 0 := ⟨co_X7_init, ini_X7, by decide, by decide +kernel⟩
set_option maxRecDepth 100000 in
set_option maxHeartbeats 4000000 in
theorem k_X7_init {lo : Nat} {h : Hp} {x0 : Nat} {h' : Hp} (e : f_X7_init h x0 = some h') : ∀ l d, AC l d lo yX7_init cX7_init 1 none ({ frames := 2, cells := 5, slots := 143, locals := 40 } : Room) [.ref (lo + x0)] h none h' := by
  intro l d
  refine AC_of (by decide) (Nat.le_of_ble_eq_true rfl) ?_
  intro G C hN _ q
  unfold f_X7_init at e
  show AW G lo 0 0 0 [(0, .ref (lo + x0))] [] h
  refine a_aload_n C dX7_init_0 rfl 0 rfl ?_
  refine a_objinit C ml_X7_3 im_objinit co_objinit (Nat.le_of_ble_eq_true rfl) (Nat.le_of_ble_eq_true rfl) dX7_init_1 ?_
  refine a_aload_n C dX7_init_4 rfl 0 rfl ?_
  refine a_bipush (v := (110 : Int32)) C dX7_init_5 (by decide) ?_
  refine a_newa (N := 110) C (by decide) (by decide) (Nat.le_of_ble_eq_true rfl) (Nat.le_of_ble_eq_true rfl) (Nat.le_of_ble_eq_true rfl) dX7_init_7 ?_
  obtain ⟨q2, h1, e0_q2, e1_h1, e⟩ := nw_some e
  rw [← e0_q2, ← e1_h1]
  show AW G lo 1 110 9 [(0, .ref (lo + x0))] [.ref (lo + q2), .ref (lo + x0)] h1
  obtain ⟨h4, e3, e⟩ := bA_some e
  refine a_putFR (t := (.array .int)) C hN cb6 0 (by decide) fl_X7_9 rfl rfl (by decide +kernel) rfl rfl dX7_init_9 e3 ?_
  refine a_aload_n C dX7_init_12 rfl 0 rfl ?_
  refine a_new C cb2 [.inr none, .inr none, .inr none, .inl 0, .inl 0, .inl 0, .inl 0, .inl 0, .inl 0] kl_X7_15 ins_X3 ini_X3 (by decide) rfl (Nat.le_of_ble_eq_true rfl) (Nat.le_of_ble_eq_true rfl) dX7_init_13 ?_
  obtain ⟨q6, h5, e0_q6, e1_h5, e⟩ := nw_some e
  rw [← e0_q6, ← e1_h5]
  show AW G lo 2 119 16 [(0, .ref (lo + x0))] [.ref (lo + q6), .ref (lo + x0)] h5
  refine a_dup C dX7_init_16 rfl ?_
  obtain ⟨h7, e8, e⟩ := bA_some e
  refine a_callIN (as := []) (rest := [.ref (lo + q6), .ref (lo + x0)]) C m_X3_init rfl im_X3_init bn_X7_17 rfl (Nat.le_of_ble_eq_true rfl) (Nat.le_of_ble_eq_true rfl) (Nat.le_of_ble_eq_true rfl) (Nat.le_of_ble_eq_true rfl) (Nat.le_of_ble_eq_true rfl) dX7_init_17 (k_X3_init e8) rfl ?_
  show AW G lo 5 143 20 [(0, .ref (lo + x0))] [.ref (lo + q6), .ref (lo + x0)] h7
  obtain ⟨h16, e15, e⟩ := bA_some e
  refine a_putFR (t := (.object "DoorsBehind$House")) C hN cb6 1 (by decide) fl_X7_18 rfl rfl (by decide +kernel) rfl rfl dX7_init_20 e15 ?_
  obtain rfl := sp1 e
  exact a_vret C q (Nat.le_of_ble_eq_true rfl) (Nat.le_of_ble_eq_true rfl) dX7_init_23

set_option maxRecDepth 100000 in
def f_X7_isFull (h : Hp) (x0 : Nat) : Option (Int32 × Hp) := bA (gI h x0 6 2) fun g2 => bA (if g2 < (110 : Int32) then some (0 : Int32) else some (1 : Int32)) fun j4 => bA (bz j4) fun z7 => some (j4, h)

theorem m_X7_isFull : MI yX7_isFull cX7_isFull 1 (some .boolean) 0 := ⟨co_X7_isFull, ini_X7, by decide, by decide +kernel⟩
set_option maxRecDepth 100000 in
set_option maxHeartbeats 4000000 in
theorem k_X7_isFull {lo : Nat} {h : Hp} {x0 : Nat} {r : Int32} {h' : Hp} (e : f_X7_isFull h x0 = some (r, h')) : ∀ l d, AC l d lo yX7_isFull cX7_isFull 1 (some .boolean) ({ frames := 0, cells := 0, slots := 0, locals := 0 } : Room) [.ref (lo + x0)] h (some (.int r)) h' := by
  intro l d
  refine AC_of (by decide) (Nat.le_of_ble_eq_true rfl) ?_
  intro G C _ _ q
  unfold f_X7_isFull at e
  show AW G lo 0 0 0 [(0, .ref (lo + x0))] [] h
  refine a_aload_n C dX7_isFull_0 rfl 0 rfl ?_
  obtain ⟨g2, e1, e⟩ := bA_some e
  refine a_getI C cb6 2 (by decide) fl_X7_22 rfl dX7_isFull_1 e1 ?_
  refine a_bipush (v := (110 : Int32)) C dX7_isFull_4 (by decide) ?_
  obtain ⟨j4, eb6, e⟩ := bA_some e
  have jj5 : AW G lo 0 0 14 [(0, .ref (lo + x0))] [.int j4] h := by
    obtain ⟨z7, e8, e⟩ := bA_some e
    obtain ⟨rfl, rfl⟩ := sp2 e
    exact a_zret C q (bz_some e8) (Nat.le_of_ble_eq_true rfl) (Nat.le_of_ble_eq_true rfl) dX7_isFull_14
  have e := eb6
  refine a_icmp_lt (tgt := 13) C dX7_isFull_6 (by decide) (fun c3 => ?_) (fun c3 => ?_)
  · have e := ip c3 e
    refine a_iconst (v := (0 : Int32)) C dX7_isFull_13 (by decide) ?_
    obtain rfl := sp1 e
    exact a_widen (Nat.le_of_ble_eq_true rfl) (Nat.le_of_ble_eq_true rfl) (a_sub [0] rfl jj5)
  · have e := iN c3 e
    refine a_iconst (v := (1 : Int32)) C dX7_isFull_9 (by decide) ?_
    refine a_goto (tgt := 14) C dX7_isFull_10 (by decide) ?_
    obtain rfl := sp1 e
    exact a_widen (Nat.le_of_ble_eq_true rfl) (Nat.le_of_ble_eq_true rfl) (a_sub [0] rfl jj5)

set_option maxRecDepth 100000 in
def f_X7_take (h : Hp) (x0 : Nat) (x1 : Int32) : Option (Int32 × Hp) := bA (isC h x0 6) fun u7 => b2 (f_X7_isFull h x0 ) fun r3 h1 => bA (if r3 = 0 then bA (gN h1 x0 6 0) fun a15 => bA (gI h1 x0 6 2) fun g17 => bA (ast h1 a15 0 g17 x1) fun h18 => bA (gI h18 x0 6 2) fun g21 => bA (pV h18 x0 6 2 (.inl (g21 + (1 : Int32)))) fun h23 => some h23 else some h1) fun h11 => bA (gI h11 x0 6 2) fun g25 => some (g25, h11)

theorem m_X7_take : MI yX7_take cX7_take 2 (some .int) 1 := ⟨co_X7_take, ini_X7, by decide, by decide +kernel⟩
set_option maxRecDepth 100000 in
set_option maxHeartbeats 4000000 in
theorem k_X7_take {lo : Nat} {h : Hp} {x0 : Nat} {x1 : Int32} {r : Int32} {h' : Hp} (e : f_X7_take h x0 x1 = some (r, h')) : ∀ l d, AC l d lo yX7_take cX7_take 2 (some .int) ({ frames := 1, cells := 0, slots := 0, locals := 20 } : Room) [.ref (lo + x0), .int x1] h (some (.int r)) h' := by
  intro l d
  refine AC_of (by decide) (Nat.le_of_ble_eq_true rfl) ?_
  intro G C _ _ q
  unfold f_X7_take at e
  show AW G lo 0 0 0 [(0, .ref (lo + x0)), (1, .int x1)] [] h
  refine a_aload_n C dX7_take_0 rfl 0 rfl ?_
  obtain ⟨u7, ec6, e⟩ := bA_some e
  obtain ⟨fs5, eo4⟩ := isC_some ec6
  obtain ⟨r3, h1, e2, e⟩ := b2_some e
  refine a_callV (as := []) (rest := []) C m_X7_isFull im_X7_isFull cb6 se_X7_X7_isFull_X7_isFull ml_X7_26 rfl (Nat.le_of_ble_eq_true rfl) (Nat.le_of_ble_eq_true rfl) (Nat.le_of_ble_eq_true rfl) (Nat.le_of_ble_eq_true rfl) (Nat.le_of_ble_eq_true rfl) dX7_take_1 eo4 (k_X7_isFull e2) rfl ?_
  show AW G lo 0 0 4 [(0, .ref (lo + x0)), (1, .int x1)] [.int r3] h1
  obtain ⟨h11, eb13, e⟩ := bA_some e
  have jj12 : AW G lo 0 0 27 [(0, .ref (lo + x0)), (1, .int x1)] [] h11 := by
    refine a_aload_n C dX7_take_27 rfl 0 rfl ?_
    obtain ⟨g25, e24, e⟩ := bA_some e
    refine a_getI C cb6 2 (by decide) fl_X7_22 rfl dX7_take_28 e24 ?_
    obtain ⟨rfl, rfl⟩ := sp2 e
    exact a_iret C q (Nat.le_of_ble_eq_true rfl) (Nat.le_of_ble_eq_true rfl) dX7_take_31
  have e := eb13
  refine a_if_ne (tgt := 27) C dX7_take_4 (by decide) (fun c10 => ?_) (fun c10 => ?_)
  · have e := iN c10 e
    obtain rfl := sp1 e
    exact a_widen (Nat.le_of_ble_eq_true rfl) (Nat.le_of_ble_eq_true rfl) (a_sub [0, 1] rfl jj12)
  · have e := ip c10 e
    refine a_aload_n C dX7_take_7 rfl 0 rfl ?_
    obtain ⟨a15, e14, e⟩ := bA_some e
    refine a_getN C cb6 0 (by decide) fl_X7_9 rfl dX7_take_8 e14 ?_
    refine a_aload_n C dX7_take_11 rfl 0 rfl ?_
    obtain ⟨g17, e16, e⟩ := bA_some e
    refine a_getI C cb6 2 (by decide) fl_X7_22 rfl dX7_take_12 e16 ?_
    refine a_iload_n C dX7_take_15 rfl 1 rfl ?_
    obtain ⟨h18, e19, e⟩ := bA_some e
    refine a_iast C dX7_take_16 e19 ?_
    refine a_aload_n C dX7_take_17 rfl 0 rfl ?_
    refine a_dup C dX7_take_18 rfl ?_
    obtain ⟨g21, e20, e⟩ := bA_some e
    refine a_getI C cb6 2 (by decide) fl_X7_22 rfl dX7_take_19 e20 ?_
    refine a_iconst (v := (1 : Int32)) C dX7_take_22 (by decide) ?_
    refine a_iadd C dX7_take_23 ?_
    obtain ⟨h23, e22, e⟩ := bA_some e
    refine a_putI C cb6 2 (by decide) fl_X7_22 rfl (by decide +kernel) dX7_take_24 e22 ?_
    obtain rfl := sp1 e
    exact a_widen (Nat.le_of_ble_eq_true rfl) (Nat.le_of_ble_eq_true rfl) (a_sub [0, 1] rfl jj12)

set_option maxRecDepth 100000 in
def f_X7_fail (h : Hp) (x0 : Nat) (x1 : Int32) : Option (Hp) := bA (gI h x0 6 4) fun g2 => bA (if g2 = 0 then bA (pV h x0 6 4 (.inl x1)) fun h8 => some h8 else some h) fun h4 => some h4

theorem m_X7_fail : MI yX7_fail cX7_fail 2 none 1 := ⟨co_X7_fail, ini_X7, by decide, by decide +kernel⟩
set_option maxRecDepth 100000 in
set_option maxHeartbeats 4000000 in
theorem k_X7_fail {lo : Nat} {h : Hp} {x0 : Nat} {x1 : Int32} {h' : Hp} (e : f_X7_fail h x0 x1 = some h') : ∀ l d, AC l d lo yX7_fail cX7_fail 2 none ({ frames := 0, cells := 0, slots := 0, locals := 0 } : Room) [.ref (lo + x0), .int x1] h none h' := by
  intro l d
  refine AC_of (by decide) (Nat.le_of_ble_eq_true rfl) ?_
  intro G C _ _ q
  unfold f_X7_fail at e
  show AW G lo 0 0 0 [(0, .ref (lo + x0)), (1, .int x1)] [] h
  refine a_aload_n C dX7_fail_0 rfl 0 rfl ?_
  obtain ⟨g2, e1, e⟩ := bA_some e
  refine a_getI C cb6 4 (by decide) fl_X7_33 rfl dX7_fail_1 e1 ?_
  obtain ⟨h4, eb6, e⟩ := bA_some e
  have jj5 : AW G lo 0 0 12 [(0, .ref (lo + x0)), (1, .int x1)] [] h4 := by
    obtain rfl := sp1 e
    exact a_vret C q (Nat.le_of_ble_eq_true rfl) (Nat.le_of_ble_eq_true rfl) dX7_fail_12
  have e := eb6
  refine a_if_ne (tgt := 12) C dX7_fail_4 (by decide) (fun c3 => ?_) (fun c3 => ?_)
  · have e := iN c3 e
    obtain rfl := sp1 e
    exact a_widen (Nat.le_of_ble_eq_true rfl) (Nat.le_of_ble_eq_true rfl) (a_sub [0, 1] rfl jj5)
  · have e := ip c3 e
    refine a_aload_n C dX7_fail_7 rfl 0 rfl ?_
    refine a_iload_n C dX7_fail_8 rfl 1 rfl ?_
    obtain ⟨h8, e7, e⟩ := bA_some e
    refine a_putI C cb6 4 (by decide) fl_X7_33 rfl (by decide +kernel) dX7_fail_9 e7 ?_
    obtain rfl := sp1 e
    exact a_widen (Nat.le_of_ble_eq_true rfl) (Nat.le_of_ble_eq_true rfl) (a_sub [0, 1] rfl jj5)

set_option maxRecDepth 100000 in
def f_X7_signHere (h : Hp) (x0 : Nat) : Option (Int32 × Hp) := bA (gI h x0 6 3) fun g2 => bA (gI h x0 6 2) fun g4 => bA (if g4 ≤ g2 then some (-1 : Int32) else bA (gN h x0 6 0) fun a10 => bA (gI h x0 6 3) fun g12 => bA (ald h a10 0 g12) fun v13 => some v13) fun j6 => some (j6, h)

theorem m_X7_signHere : MI yX7_signHere cX7_signHere 1 (some .int) 0 := ⟨co_X7_signHere, ini_X7, by decide, by decide +kernel⟩
set_option maxRecDepth 100000 in
set_option maxHeartbeats 4000000 in
theorem k_X7_signHere {lo : Nat} {h : Hp} {x0 : Nat} {r : Int32} {h' : Hp} (e : f_X7_signHere h x0 = some (r, h')) : ∀ l d, AC l d lo yX7_signHere cX7_signHere 1 (some .int) ({ frames := 0, cells := 0, slots := 0, locals := 0 } : Room) [.ref (lo + x0)] h (some (.int r)) h' := by
  intro l d
  refine AC_of (by decide) (Nat.le_of_ble_eq_true rfl) ?_
  intro G C _ _ q
  unfold f_X7_signHere at e
  show AW G lo 0 0 0 [(0, .ref (lo + x0))] [] h
  refine a_aload_n C dX7_signHere_0 rfl 0 rfl ?_
  obtain ⟨g2, e1, e⟩ := bA_some e
  refine a_getI C cb6 3 (by decide) fl_X7_30 rfl dX7_signHere_1 e1 ?_
  refine a_aload_n C dX7_signHere_4 rfl 0 rfl ?_
  obtain ⟨g4, e3, e⟩ := bA_some e
  refine a_getI C cb6 2 (by decide) fl_X7_22 rfl dX7_signHere_5 e3 ?_
  obtain ⟨j6, eb8, e⟩ := bA_some e
  have jj7 : AW G lo 0 0 24 [(0, .ref (lo + x0))] [.int j6] h := by
    obtain ⟨rfl, rfl⟩ := sp2 e
    exact a_iret C q (Nat.le_of_ble_eq_true rfl) (Nat.le_of_ble_eq_true rfl) dX7_signHere_24
  have e := eb8
  refine a_icmp_ge (tgt := 23) C dX7_signHere_8 (by decide) (fun c5 => ?_) (fun c5 => ?_)
  · have e := ip c5 e
    refine a_iconst (v := (-1 : Int32)) C dX7_signHere_23 (by decide) ?_
    obtain rfl := sp1 e
    exact a_widen (Nat.le_of_ble_eq_true rfl) (Nat.le_of_ble_eq_true rfl) (a_sub [0] rfl jj7)
  · have e := iN c5 e
    refine a_aload_n C dX7_signHere_11 rfl 0 rfl ?_
    obtain ⟨a10, e9, e⟩ := bA_some e
    refine a_getN C cb6 0 (by decide) fl_X7_9 rfl dX7_signHere_12 e9 ?_
    refine a_aload_n C dX7_signHere_15 rfl 0 rfl ?_
    obtain ⟨g12, e11, e⟩ := bA_some e
    refine a_getI C cb6 3 (by decide) fl_X7_30 rfl dX7_signHere_16 e11 ?_
    obtain ⟨v13, e14, e⟩ := bA_some e
    refine a_iald C dX7_signHere_19 e14 ?_
    refine a_goto (tgt := 24) C dX7_signHere_20 (by decide) ?_
    obtain rfl := sp1 e
    exact a_widen (Nat.le_of_ble_eq_true rfl) (Nat.le_of_ble_eq_true rfl) (a_sub [0] rfl jj7)

set_option maxRecDepth 100000 in
def f_X7_sees (h : Hp) (x0 : Nat) (x1 : Int32) : Option (Int32 × Hp) := bA (isC h x0 6) fun u7 => b2 (f_X7_signHere h x0 ) fun r3 h1 => bA (if r3 = x1 then some (1 : Int32) else some (0 : Int32)) fun j11 => bA (bz j11) fun z14 => some (j11, h1)

theorem m_X7_sees : MI yX7_sees cX7_sees 2 (some .boolean) 1 := ⟨co_X7_sees, ini_X7, by decide, by decide +kernel⟩
set_option maxRecDepth 100000 in
set_option maxHeartbeats 4000000 in
theorem k_X7_sees {lo : Nat} {h : Hp} {x0 : Nat} {x1 : Int32} {r : Int32} {h' : Hp} (e : f_X7_sees h x0 x1 = some (r, h')) : ∀ l d, AC l d lo yX7_sees cX7_sees 2 (some .boolean) ({ frames := 1, cells := 0, slots := 0, locals := 20 } : Room) [.ref (lo + x0), .int x1] h (some (.int r)) h' := by
  intro l d
  refine AC_of (by decide) (Nat.le_of_ble_eq_true rfl) ?_
  intro G C _ _ q
  unfold f_X7_sees at e
  show AW G lo 0 0 0 [(0, .ref (lo + x0)), (1, .int x1)] [] h
  refine a_aload_n C dX7_sees_0 rfl 0 rfl ?_
  obtain ⟨u7, ec6, e⟩ := bA_some e
  obtain ⟨fs5, eo4⟩ := isC_some ec6
  obtain ⟨r3, h1, e2, e⟩ := b2_some e
  refine a_callV (as := []) (rest := []) C m_X7_signHere im_X7_signHere cb6 se_X7_X7_signHere_X7_signHere ml_X7_85 rfl (Nat.le_of_ble_eq_true rfl) (Nat.le_of_ble_eq_true rfl) (Nat.le_of_ble_eq_true rfl) (Nat.le_of_ble_eq_true rfl) (Nat.le_of_ble_eq_true rfl) dX7_sees_1 eo4 (k_X7_signHere e2) rfl ?_
  show AW G lo 0 0 4 [(0, .ref (lo + x0)), (1, .int x1)] [.int r3] h1
  refine a_iload_n C dX7_sees_4 rfl 1 rfl ?_
  obtain ⟨j11, eb13, e⟩ := bA_some e
  have jj12 : AW G lo 0 0 13 [(0, .ref (lo + x0)), (1, .int x1)] [.int j11] h1 := by
    obtain ⟨z14, e15, e⟩ := bA_some e
    obtain ⟨rfl, rfl⟩ := sp2 e
    exact a_zret C q (bz_some e15) (Nat.le_of_ble_eq_true rfl) (Nat.le_of_ble_eq_true rfl) dX7_sees_13
  have e := eb13
  refine a_icmp_ne (tgt := 12) C dX7_sees_5 (by decide) (fun c10 => ?_) (fun c10 => ?_)
  · have e := iN c10 e
    refine a_iconst (v := (0 : Int32)) C dX7_sees_12 (by decide) ?_
    obtain rfl := sp1 e
    exact a_widen (Nat.le_of_ble_eq_true rfl) (Nat.le_of_ble_eq_true rfl) (a_sub [0, 1] rfl jj12)
  · have e := ip c10 e
    refine a_iconst (v := (1 : Int32)) C dX7_sees_8 (by decide) ?_
    refine a_goto (tgt := 13) C dX7_sees_9 (by decide) ?_
    obtain rfl := sp1 e
    exact a_widen (Nat.le_of_ble_eq_true rfl) (Nat.le_of_ble_eq_true rfl) (a_sub [0, 1] rfl jj12)

set_option maxRecDepth 100000 in
def f_X7_sortSeen (h : Hp) (x0 : Nat) : Option (Int32 × Hp) := bA (isC h x0 6) fun u7 => b2 (f_X7_signHere h x0 ) fun r3 h1 => (if r3 = (98 : Int32) then some ((2 : Int32), h1) else (if r3 = (99 : Int32) then some ((3 : Int32), h1) else (if r3 = (107 : Int32) then some ((4 : Int32), h1) else (if r3 = (108 : Int32) then some ((1 : Int32), h1) else (if r3 = (115 : Int32) then some ((5 : Int32), h1) else some ((0 : Int32), h1))))))

theorem m_X7_sortSeen : MI yX7_sortSeen cX7_sortSeen 1 (some .int) 0 := ⟨co_X7_sortSeen, ini_X7, by decide, by decide +kernel⟩
set_option maxRecDepth 100000 in
set_option maxHeartbeats 4000000 in
theorem k_X7_sortSeen {lo : Nat} {h : Hp} {x0 : Nat} {r : Int32} {h' : Hp} (e : f_X7_sortSeen h x0 = some (r, h')) : ∀ l d, AC l d lo yX7_sortSeen cX7_sortSeen 1 (some .int) ({ frames := 1, cells := 0, slots := 0, locals := 20 } : Room) [.ref (lo + x0)] h (some (.int r)) h' := by
  intro l d
  refine AC_of (by decide) (Nat.le_of_ble_eq_true rfl) ?_
  intro G C _ _ q
  unfold f_X7_sortSeen at e
  show AW G lo 0 0 0 [(0, .ref (lo + x0))] [] h
  refine a_aload_n C dX7_sortSeen_0 rfl 0 rfl ?_
  obtain ⟨u7, ec6, e⟩ := bA_some e
  obtain ⟨fs5, eo4⟩ := isC_some ec6
  obtain ⟨r3, h1, e2, e⟩ := b2_some e
  refine a_callV (as := []) (rest := []) C m_X7_signHere im_X7_signHere cb6 se_X7_X7_signHere_X7_signHere ml_X7_85 rfl (Nat.le_of_ble_eq_true rfl) (Nat.le_of_ble_eq_true rfl) (Nat.le_of_ble_eq_true rfl) (Nat.le_of_ble_eq_true rfl) (Nat.le_of_ble_eq_true rfl) dX7_sortSeen_1 eo4 (k_X7_signHere e2) rfl ?_
  show AW G lo 0 0 4 [(0, .ref (lo + x0))] [.int r3] h1
  have hxx10 : r3 = r3 := rfl
  by_cases c11 : r3 = (98 : Int32)
  · have e := ip c11 e
    refine a_lookup (off := 54) (tgt := 58) C dX7_sortSeen_4 (by decide) (by rw [c11]; first | done | rfl) (by decide) ?_
    refine a_iconst (v := (2 : Int32)) C dX7_sortSeen_58 (by decide) ?_
    obtain ⟨rfl, rfl⟩ := sp2 e
    exact a_iret C q (Nat.le_of_ble_eq_true rfl) (Nat.le_of_ble_eq_true rfl) dX7_sortSeen_59
  have e := iN c11 e
  by_cases c12 : r3 = (99 : Int32)
  · have e := ip c12 e
    refine a_lookup (off := 56) (tgt := 60) C dX7_sortSeen_4 (by decide) (by rw [c12]; first | done | rfl) (by decide) ?_
    refine a_iconst (v := (3 : Int32)) C dX7_sortSeen_60 (by decide) ?_
    obtain ⟨rfl, rfl⟩ := sp2 e
    exact a_iret C q (Nat.le_of_ble_eq_true rfl) (Nat.le_of_ble_eq_true rfl) dX7_sortSeen_61
  have e := iN c12 e
  by_cases c13 : r3 = (107 : Int32)
  · have e := ip c13 e
    refine a_lookup (off := 58) (tgt := 62) C dX7_sortSeen_4 (by decide) (by rw [c13]; first | done | rfl) (by decide) ?_
    refine a_iconst (v := (4 : Int32)) C dX7_sortSeen_62 (by decide) ?_
    obtain ⟨rfl, rfl⟩ := sp2 e
    exact a_iret C q (Nat.le_of_ble_eq_true rfl) (Nat.le_of_ble_eq_true rfl) dX7_sortSeen_63
  have e := iN c13 e
  by_cases c14 : r3 = (108 : Int32)
  · have e := ip c14 e
    refine a_lookup (off := 52) (tgt := 56) C dX7_sortSeen_4 (by decide) (by rw [c14]; first | done | rfl) (by decide) ?_
    refine a_iconst (v := (1 : Int32)) C dX7_sortSeen_56 (by decide) ?_
    obtain ⟨rfl, rfl⟩ := sp2 e
    exact a_iret C q (Nat.le_of_ble_eq_true rfl) (Nat.le_of_ble_eq_true rfl) dX7_sortSeen_57
  have e := iN c14 e
  by_cases c15 : r3 = (115 : Int32)
  · have e := ip c15 e
    refine a_lookup (off := 60) (tgt := 64) C dX7_sortSeen_4 (by decide) (by rw [c15]; first | done | rfl) (by decide) ?_
    refine a_iconst (v := (5 : Int32)) C dX7_sortSeen_64 (by decide) ?_
    obtain ⟨rfl, rfl⟩ := sp2 e
    exact a_iret C q (Nat.le_of_ble_eq_true rfl) (Nat.le_of_ble_eq_true rfl) dX7_sortSeen_65
  have e := iN c15 e
  refine a_lookup (off := 62) (tgt := 66) C dX7_sortSeen_4 (by decide) (by simp only [Op.lookupswitch.offset]; rw [if_neg (fun q => lv_neT (a := 98) c11 (by decide) q.symm)]; rw [if_neg (fun q => lv_neT (a := 99) c12 (by decide) q.symm)]; rw [if_neg (fun q => lv_neT (a := 107) c13 (by decide) q.symm)]; rw [if_neg (fun q => lv_neT (a := 108) c14 (by decide) q.symm)]; rw [if_neg (fun q => lv_neT (a := 115) c15 (by decide) q.symm)]) (by decide) ?_
  refine a_iconst (v := (0 : Int32)) C dX7_sortSeen_66 (by decide) ?_
  obtain ⟨rfl, rfl⟩ := sp2 e
  exact a_iret C q (Nat.le_of_ble_eq_true rfl) (Nat.le_of_ble_eq_true rfl) dX7_sortSeen_67

set_option maxRecDepth 100000 in
def f_X7_readSign (h : Hp) (x0 : Nat) (x1 : Int32) : Option (Hp) := bA (gI h x0 6 4) fun g2 => (if g2 = 0 then bA (gI h x0 6 3) fun g5 => bA (gI h x0 6 2) fun g7 => bA (if g7 ≤ g5 then bA (isC h x0 6) fun u18 => bA (f_X7_fail h x0 (1 : Int32)) fun h12 => some h12 else bA (isC h x0 6) fun u27 => b2 (f_X7_sees h x0 x1) fun r23 h21 => (if r23 = 0 then bA (isC h21 x0 6) fun u37 => bA (f_X7_fail h21 x0 (1 : Int32)) fun h31 => some h31 else bA (gI h21 x0 6 3) fun g41 => bA (pV h21 x0 6 3 (.inl (g41 + (1 : Int32)))) fun h43 => some h43)) fun h9 => some h9 else some h)

theorem m_X7_readSign : MI yX7_readSign cX7_readSign 2 none 1 := ⟨co_X7_readSign, ini_X7, by decide, by decide +kernel⟩
set_option maxRecDepth 100000 in
set_option maxHeartbeats 4000000 in
theorem k_X7_readSign {lo : Nat} {h : Hp} {x0 : Nat} {x1 : Int32} {h' : Hp} (e : f_X7_readSign h x0 x1 = some h') : ∀ l d, AC l d lo yX7_readSign cX7_readSign 2 none ({ frames := 2, cells := 0, slots := 0, locals := 41 } : Room) [.ref (lo + x0), .int x1] h none h' := by
  intro l d
  refine AC_of (by decide) (Nat.le_of_ble_eq_true rfl) ?_
  intro G C _ _ q
  unfold f_X7_readSign at e
  show AW G lo 0 0 0 [(0, .ref (lo + x0)), (1, .int x1)] [] h
  refine a_aload_n C dX7_readSign_0 rfl 0 rfl ?_
  obtain ⟨g2, e1, e⟩ := bA_some e
  refine a_getI C cb6 4 (by decide) fl_X7_33 rfl dX7_readSign_1 e1 ?_
  refine a_if_eq (tgt := 8) C dX7_readSign_4 (by decide) (fun c3 => ?_) (fun c3 => ?_)
  · have e := ip c3 e
    refine a_aload_n C dX7_readSign_8 rfl 0 rfl ?_
    obtain ⟨g5, e4, e⟩ := bA_some e
    refine a_getI C cb6 3 (by decide) fl_X7_30 rfl dX7_readSign_9 e4 ?_
    refine a_aload_n C dX7_readSign_12 rfl 0 rfl ?_
    obtain ⟨g7, e6, e⟩ := bA_some e
    refine a_getI C cb6 2 (by decide) fl_X7_22 rfl dX7_readSign_13 e6 ?_
    obtain ⟨h9, eb11, e⟩ := bA_some e
    have jj10 : AW G lo 0 0 45 [(0, .ref (lo + x0)), (1, .int x1)] [] h9 := by
      obtain rfl := sp1 e
      exact a_vret C q (Nat.le_of_ble_eq_true rfl) (Nat.le_of_ble_eq_true rfl) dX7_readSign_45
    have e := eb11
    refine a_icmp_ge (tgt := 40) C dX7_readSign_16 (by decide) (fun c8 => ?_) (fun c8 => ?_)
    · have e := ip c8 e
      refine a_aload_n C dX7_readSign_40 rfl 0 rfl ?_
      refine a_iconst (v := (1 : Int32)) C dX7_readSign_41 (by decide) ?_
      obtain ⟨u18, ec17, e⟩ := bA_some e
      obtain ⟨fs16, eo15⟩ := isC_some ec17
      obtain ⟨h12, e13, e⟩ := bA_some e
      refine a_callV (as := [.int (1 : Int32)]) (rest := []) C m_X7_fail im_X7_fail cb6 se_X7_X7_fail_X7_fail ml_X7_52 rfl (Nat.le_of_ble_eq_true rfl) (Nat.le_of_ble_eq_true rfl) (Nat.le_of_ble_eq_true rfl) (Nat.le_of_ble_eq_true rfl) (Nat.le_of_ble_eq_true rfl) dX7_readSign_42 eo15 (k_X7_fail e13) rfl ?_
      show AW G lo 0 0 45 [(0, .ref (lo + x0)), (1, .int x1)] [] h12
      obtain rfl := sp1 e
      exact a_widen (Nat.le_of_ble_eq_true rfl) (Nat.le_of_ble_eq_true rfl) (a_sub [0, 1] rfl jj10)
    · have e := iN c8 e
      refine a_aload_n C dX7_readSign_19 rfl 0 rfl ?_
      refine a_iload_n C dX7_readSign_20 rfl 1 rfl ?_
      obtain ⟨u27, ec26, e⟩ := bA_some e
      obtain ⟨fs25, eo24⟩ := isC_some ec26
      obtain ⟨r23, h21, e22, e⟩ := b2_some e
      refine a_callV (as := [.int x1]) (rest := []) C m_X7_sees im_X7_sees cb6 se_X7_X7_sees_X7_sees ml_X7_42 rfl (Nat.le_of_ble_eq_true rfl) (Nat.le_of_ble_eq_true rfl) (Nat.le_of_ble_eq_true rfl) (Nat.le_of_ble_eq_true rfl) (Nat.le_of_ble_eq_true rfl) dX7_readSign_21 eo24 (k_X7_sees e22) rfl ?_
      show AW G lo 0 0 24 [(0, .ref (lo + x0)), (1, .int x1)] [.int r23] h21
      refine a_if_eq (tgt := 40) C dX7_readSign_24 (by decide) (fun c30 => ?_) (fun c30 => ?_)
      · have e := ip c30 e
        refine a_aload_n C dX7_readSign_40 rfl 0 rfl ?_
        refine a_iconst (v := (1 : Int32)) C dX7_readSign_41 (by decide) ?_
        obtain ⟨u37, ec36, e⟩ := bA_some e
        obtain ⟨fs35, eo34⟩ := isC_some ec36
        obtain ⟨h31, e32, e⟩ := bA_some e
        refine a_callV (as := [.int (1 : Int32)]) (rest := []) C m_X7_fail im_X7_fail cb6 se_X7_X7_fail_X7_fail ml_X7_52 rfl (Nat.le_of_ble_eq_true rfl) (Nat.le_of_ble_eq_true rfl) (Nat.le_of_ble_eq_true rfl) (Nat.le_of_ble_eq_true rfl) (Nat.le_of_ble_eq_true rfl) dX7_readSign_42 eo34 (k_X7_fail e32) rfl ?_
        show AW G lo 0 0 45 [(0, .ref (lo + x0)), (1, .int x1)] [] h31
        obtain rfl := sp1 e
        exact a_widen (Nat.le_of_ble_eq_true rfl) (Nat.le_of_ble_eq_true rfl) (a_sub [0, 1] rfl jj10)
      · have e := iN c30 e
        refine a_aload_n C dX7_readSign_27 rfl 0 rfl ?_
        refine a_dup C dX7_readSign_28 rfl ?_
        obtain ⟨g41, e40, e⟩ := bA_some e
        refine a_getI C cb6 3 (by decide) fl_X7_30 rfl dX7_readSign_29 e40 ?_
        refine a_iconst (v := (1 : Int32)) C dX7_readSign_32 (by decide) ?_
        refine a_iadd C dX7_readSign_33 ?_
        obtain ⟨h43, e42, e⟩ := bA_some e
        refine a_putI C cb6 3 (by decide) fl_X7_30 rfl (by decide +kernel) dX7_readSign_34 e42 ?_
        refine a_goto (tgt := 45) C dX7_readSign_37 (by decide) ?_
        obtain rfl := sp1 e
        exact a_widen (Nat.le_of_ble_eq_true rfl) (Nat.le_of_ble_eq_true rfl) (a_sub [0, 1] rfl jj10)
  · have e := iN c3 e
    obtain rfl := sp1 e
    exact a_vret C q (Nat.le_of_ble_eq_true rfl) (Nat.le_of_ble_eq_true rfl) dX7_readSign_7

set_option maxRecDepth 100000 in
def f_X7_figures_L7 {β : Type} (k : Int32 → Int32 → Hp → Option (β)) (x0 : Nat) : Nat → Hp → Int32 → Int32 → Option (β)
  | 0, _, _, _ => none
  | fuel + 1, h, x1, x2 => bA (gI h x0 6 2) fun g4 => (if g4 ≤ x2 then k x1 x2 h else bA (gN h x0 6 0) fun a7 => bA (ald h a7 0 x2) fun v8 => (if v8 < (48 : Int32) then k x1 x2 h else bA (gN h x0 6 0) fun a12 => bA (ald h a12 0 x2) fun v13 => (if (57 : Int32) < v13 then k x1 x2 h else f_X7_figures_L7 k x0 fuel h (x1 + (1 : Int32)) (x2 + (1 : Int32)))))

set_option maxRecDepth 100000 in
def f_X7_figures (h : Hp) (x0 : Nat) : Option (Int32 × Hp) := bA (gI h x0 6 3) fun g2 => f_X7_figures_L7 (fun y17 y18 h16 => some (y17, h16)) x0 2000 h (0 : Int32) g2

theorem m_X7_figures : MI yX7_figures cX7_figures 3 (some .int) 0 := ⟨co_X7_figures, ini_X7, by decide, by decide +kernel⟩
set_option maxRecDepth 100000 in
set_option maxHeartbeats 4000000 in
theorem w_X7_figures_L7 {G : Gm} {lo : Nat} {ce sl : Nat} (C : CX G lo cX7_figures RX7 (some .int) ({ frames := 0, cells := 0, slots := 0, locals := 0 } : Room) 3) {β : Type} {res : β} {k : Int32 → Int32 → Hp → Option (β)} {x0 : Nat} (hk : ∀ (h : Hp) (x1 : Int32) (x2 : Int32), k x1 x2 h = some res → AW G lo ce sl 46 [(0, .ref (lo + x0)), (1, .int x1), (2, .int x2)] [] h) (hce : ce ≤ 0) (hsl : sl ≤ 0) : ∀ (fuel : Nat) (h : Hp) (x1 : Int32) (x2 : Int32), f_X7_figures_L7 k x0 fuel h x1 x2 = some res → AW G lo ce sl 7 [(0, .ref (lo + x0)), (1, .int x1), (2, .int x2)] [] h := by
  intro fuel
  induction fuel with
  | zero =>
    intro h x1 x2 e
    cases (show (none : Option (β)) = some res from e)
  | succ fuel ih =>
    intro h x1 x2 e
    rw [f_X7_figures_L7] at e
    refine a_iload_n C dX7_figures_7 rfl 2 rfl ?_
    refine a_aload_n C dX7_figures_8 rfl 0 rfl ?_
    obtain ⟨g4, e3, e⟩ := bA_some e
    refine a_getI C cb6 2 (by decide) fl_X7_22 rfl dX7_figures_9 e3 ?_
    refine a_icmp_ge (tgt := 46) C dX7_figures_12 (by decide) (fun c5 => ?_) (fun c5 => ?_)
    · have e := ip c5 e
      exact a_sub [0, 1, 2] rfl (hk _ _ _ e)
    · have e := iN c5 e
      refine a_aload_n C dX7_figures_15 rfl 0 rfl ?_
      obtain ⟨a7, e6, e⟩ := bA_some e
      refine a_getN C cb6 0 (by decide) fl_X7_9 rfl dX7_figures_16 e6 ?_
      refine a_iload_n C dX7_figures_19 rfl 2 rfl ?_
      obtain ⟨v8, e9, e⟩ := bA_some e
      refine a_iald C dX7_figures_20 e9 ?_
      refine a_bipush (v := (48 : Int32)) C dX7_figures_21 (by decide) ?_
      refine a_icmp_lt (tgt := 46) C dX7_figures_23 (by decide) (fun c10 => ?_) (fun c10 => ?_)
      · have e := ip c10 e
        exact a_sub [0, 1, 2] rfl (hk _ _ _ e)
      · have e := iN c10 e
        refine a_aload_n C dX7_figures_26 rfl 0 rfl ?_
        obtain ⟨a12, e11, e⟩ := bA_some e
        refine a_getN C cb6 0 (by decide) fl_X7_9 rfl dX7_figures_27 e11 ?_
        refine a_iload_n C dX7_figures_30 rfl 2 rfl ?_
        obtain ⟨v13, e14, e⟩ := bA_some e
        refine a_iald C dX7_figures_31 e14 ?_
        refine a_bipush (v := (57 : Int32)) C dX7_figures_32 (by decide) ?_
        refine a_icmp_gt (tgt := 46) C dX7_figures_34 (by decide) (fun c15 => ?_) (fun c15 => ?_)
        · have e := ip c15 e
          exact a_sub [0, 1, 2] rfl (hk _ _ _ e)
        · have e := iN c15 e
          refine a_iinc (v := x1 + (1 : Int32)) (lv2 := [(1, .int (x1 + (1 : Int32))), (0, .ref (lo + x0)), (2, .int x2)]) C dX7_figures_37 1 rfl rfl (by decide) rfl ?_
          refine a_iinc (v := x2 + (1 : Int32)) (lv2 := [(2, .int (x2 + (1 : Int32))), (1, .int (x1 + (1 : Int32))), (0, .ref (lo + x0))]) C dX7_figures_40 2 rfl rfl (by decide) rfl ?_
          refine a_goto (tgt := 7) C dX7_figures_43 (by decide) ?_
          exact a_sub [2, 1, 0] rfl (ih _ _ _ e)
set_option maxRecDepth 100000 in
set_option maxHeartbeats 4000000 in
theorem k_X7_figures {lo : Nat} {h : Hp} {x0 : Nat} {r : Int32} {h' : Hp} (e : f_X7_figures h x0 = some (r, h')) : ∀ l d, AC l d lo yX7_figures cX7_figures 3 (some .int) ({ frames := 0, cells := 0, slots := 0, locals := 0 } : Room) [.ref (lo + x0)] h (some (.int r)) h' := by
  intro l d
  refine AC_of (by decide) (Nat.le_of_ble_eq_true rfl) ?_
  intro G C _ _ q
  unfold f_X7_figures at e
  show AW G lo 0 0 0 [(0, .ref (lo + x0))] [] h
  refine a_iconst (v := (0 : Int32)) C dX7_figures_0 (by decide) ?_
  refine a_istore_n (lv2 := [(1, .int (0 : Int32)), (0, .ref (lo + x0))]) C dX7_figures_1 rfl (by decide) rfl ?_
  refine a_aload_n C dX7_figures_2 rfl 1 rfl ?_
  obtain ⟨g2, e1, e⟩ := bA_some e
  refine a_getI C cb6 3 (by decide) fl_X7_30 rfl dX7_figures_3 e1 ?_
  refine a_istore_n (lv2 := [(2, .int g2), (1, .int (0 : Int32)), (0, .ref (lo + x0))]) C dX7_figures_6 rfl (by decide) rfl ?_
  refine a_sub [2, 1, 0] rfl (w_X7_figures_L7 C ?_ (Nat.le_of_ble_eq_true rfl) (Nat.le_of_ble_eq_true rfl) 2000 _ _ _ e)
  intro h16 y17 y18 e
  show AW G lo 0 0 46 [(0, .ref (lo + x0)), (1, .int y17), (2, .int y18)] [] h16
  refine a_iload_n C dX7_figures_46 rfl 1 rfl ?_
  obtain ⟨rfl, rfl⟩ := sp2 e
  exact a_iret C q (Nat.le_of_ble_eq_true rfl) (Nat.le_of_ble_eq_true rfl) dX7_figures_47

set_option maxRecDepth 100000 in
def f_X7_readNumber_L43 {β : Type} (k : Int32 → Int32 → Hp → Option (β)) (x0 : Nat) (x1 : Int32) (x2 : Int32) (x3 : Int32) (x4 : Int32) : Nat → Hp → Int32 → Int32 → Option (β)
  | 0, _, _, _ => none
  | fuel + 1, h, x5, x6 => bA (gI h x0 6 3) fun g27 => (if (g27 + x4) ≤ x6 then k x5 x6 h else bA (gN h x0 6 0) fun a30 => bA (ald h a30 0 x6) fun v31 => f_X7_readNumber_L43 k x0 x1 x2 x3 x4 fuel h (((x5 * (10 : Int32)) + v31) - (48 : Int32)) (x6 + (1 : Int32)))

set_option maxRecDepth 100000 in
def f_X7_readNumber (h : Hp) (x0 : Nat) (x1 : Int32) (x2 : Int32) (x3 : Int32) : Option (Int32 × Hp) := bA (gI h x0 6 4) fun g2 => (if g2 = 0 then bA (isC h x0 6) fun u10 => b2 (f_X7_figures h x0 ) fun r6 h4 => (if r6 < (1 : Int32) then bA (isC h4 x0 6) fun u20 => bA (f_X7_fail h4 x0 (1 : Int32)) fun h14 => some ((0 : Int32), h14) else (if r6 ≤ (2 : Int32) then bA (gI h4 x0 6 3) fun g25 => f_X7_readNumber_L43 (fun y34 y35 h33 => bA (if y34 < x1 then bA (isC h33 x0 6) fun u46 => bA (f_X7_fail h33 x0 (2 : Int32)) fun h40 => some h40 else (if x2 < y34 then bA (isC h33 x0 6) fun u56 => bA (f_X7_fail h33 x0 (2 : Int32)) fun h50 => some h50 else (if y34 = x3 then bA (isC h33 x0 6) fun u70 => bA (f_X7_fail h33 x0 (2 : Int32)) fun h64 => some h64 else bA (gI h33 x0 6 3) fun g61 => bA (pV h33 x0 6 3 (.inl (g61 + r6))) fun h63 => some h63))) fun h37 => some (y34, h37)) x0 x1 x2 x3 r6 2000 h4 (0 : Int32) g25 else bA (isC h4 x0 6) fun u79 => bA (f_X7_fail h4 x0 (1 : Int32)) fun h73 => some ((0 : Int32), h73))) else some ((0 : Int32), h))

theorem m_X7_readNumber : MI yX7_readNumber cX7_readNumber 7 (some .int) 3 := ⟨co_X7_readNumber, ini_X7, by decide, by decide +kernel⟩
set_option maxRecDepth 100000 in
set_option maxHeartbeats 4000000 in
theorem w_X7_readNumber_L43 {G : Gm} {lo : Nat} {ce sl : Nat} (C : CX G lo cX7_readNumber RX7 (some .int) ({ frames := 1, cells := 0, slots := 0, locals := 22 } : Room) 7) {β : Type} {res : β} {k : Int32 → Int32 → Hp → Option (β)} {x0 : Nat} {x1 : Int32} {x2 : Int32} {x3 : Int32} {x4 : Int32} (hk : ∀ (h : Hp) (x5 : Int32) (x6 : Int32), k x5 x6 h = some res → AW G lo ce sl 79 [(0, .ref (lo + x0)), (1, .int x1), (2, .int x2), (3, .int x3), (4, .int x4), (5, .int x5), (6, .int x6)] [] h) (hce : ce ≤ 0) (hsl : sl ≤ 0) : ∀ (fuel : Nat) (h : Hp) (x5 : Int32) (x6 : Int32), f_X7_readNumber_L43 k x0 x1 x2 x3 x4 fuel h x5 x6 = some res → AW G lo ce sl 43 [(0, .ref (lo + x0)), (1, .int x1), (2, .int x2), (3, .int x3), (4, .int x4), (5, .int x5), (6, .int x6)] [] h := by
  intro fuel
  induction fuel with
  | zero =>
    intro h x5 x6 e
    cases (show (none : Option (β)) = some res from e)
  | succ fuel ih =>
    intro h x5 x6 e
    rw [f_X7_readNumber_L43] at e
    refine a_iload C dX7_readNumber_43 6 rfl ?_
    refine a_aload_n C dX7_readNumber_45 rfl 0 rfl ?_
    obtain ⟨g27, e26, e⟩ := bA_some e
    refine a_getI C cb6 3 (by decide) fl_X7_30 rfl dX7_readNumber_46 e26 ?_
    refine a_iload C dX7_readNumber_49 4 rfl ?_
    refine a_iadd C dX7_readNumber_51 ?_
    refine a_icmp_ge (tgt := 79) C dX7_readNumber_52 (by decide) (fun c28 => ?_) (fun c28 => ?_)
    · have e := ip c28 e
      exact a_sub [0, 1, 2, 3, 4, 5, 6] rfl (hk _ _ _ e)
    · have e := iN c28 e
      refine a_iload C dX7_readNumber_55 5 rfl ?_
      refine a_bipush (v := (10 : Int32)) C dX7_readNumber_57 (by decide) ?_
      refine a_imul C dX7_readNumber_59 ?_
      refine a_aload_n C dX7_readNumber_60 rfl 0 rfl ?_
      obtain ⟨a30, e29, e⟩ := bA_some e
      refine a_getN C cb6 0 (by decide) fl_X7_9 rfl dX7_readNumber_61 e29 ?_
      refine a_iload C dX7_readNumber_64 6 rfl ?_
      obtain ⟨v31, e32, e⟩ := bA_some e
      refine a_iald C dX7_readNumber_66 e32 ?_
      refine a_iadd C dX7_readNumber_67 ?_
      refine a_bipush (v := (48 : Int32)) C dX7_readNumber_68 (by decide) ?_
      refine a_isub C dX7_readNumber_70 ?_
      refine a_istore (lv2 := [(5, .int (((x5 * (10 : Int32)) + v31) - (48 : Int32))), (0, .ref (lo + x0)), (1, .int x1), (2, .int x2), (3, .int x3), (4, .int x4), (6, .int x6)]) C dX7_readNumber_71 (by decide) rfl ?_
      refine a_iinc (v := x6 + (1 : Int32)) (lv2 := [(6, .int (x6 + (1 : Int32))), (5, .int (((x5 * (10 : Int32)) + v31) - (48 : Int32))), (0, .ref (lo + x0)), (1, .int x1), (2, .int x2), (3, .int x3), (4, .int x4)]) C dX7_readNumber_73 6 rfl rfl (by decide) rfl ?_
      refine a_goto (tgt := 43) C dX7_readNumber_76 (by decide) ?_
      exact a_sub [2, 3, 4, 5, 6, 1, 0] rfl (ih _ _ _ e)
set_option maxRecDepth 100000 in
set_option maxHeartbeats 4000000 in
theorem k_X7_readNumber {lo : Nat} {h : Hp} {x0 : Nat} {x1 : Int32} {x2 : Int32} {x3 : Int32} {r : Int32} {h' : Hp} (e : f_X7_readNumber h x0 x1 x2 x3 = some (r, h')) : ∀ l d, AC l d lo yX7_readNumber cX7_readNumber 7 (some .int) ({ frames := 1, cells := 0, slots := 0, locals := 22 } : Room) [.ref (lo + x0), .int x1, .int x2, .int x3] h (some (.int r)) h' := by
  intro l d
  refine AC_of (by decide) (Nat.le_of_ble_eq_true rfl) ?_
  intro G C _ _ q
  unfold f_X7_readNumber at e
  show AW G lo 0 0 0 [(0, .ref (lo + x0)), (1, .int x1), (2, .int x2), (3, .int x3)] [] h
  refine a_aload_n C dX7_readNumber_0 rfl 0 rfl ?_
  obtain ⟨g2, e1, e⟩ := bA_some e
  refine a_getI C cb6 4 (by decide) fl_X7_33 rfl dX7_readNumber_1 e1 ?_
  refine a_if_eq (tgt := 9) C dX7_readNumber_4 (by decide) (fun c3 => ?_) (fun c3 => ?_)
  · have e := ip c3 e
    refine a_aload_n C dX7_readNumber_9 rfl 0 rfl ?_
    obtain ⟨u10, ec9, e⟩ := bA_some e
    obtain ⟨fs8, eo7⟩ := isC_some ec9
    obtain ⟨r6, h4, e5, e⟩ := b2_some e
    refine a_callV (as := []) (rest := []) C m_X7_figures im_X7_figures cb6 se_X7_X7_figures_X7_figures ml_X7_92 rfl (Nat.le_of_ble_eq_true rfl) (Nat.le_of_ble_eq_true rfl) (Nat.le_of_ble_eq_true rfl) (Nat.le_of_ble_eq_true rfl) (Nat.le_of_ble_eq_true rfl) dX7_readNumber_10 eo7 (k_X7_figures e5) rfl ?_
    show AW G lo 0 0 13 [(0, .ref (lo + x0)), (1, .int x1), (2, .int x2), (3, .int x3)] [.int r6] h4
    refine a_istore (lv2 := [(4, .int r6), (0, .ref (lo + x0)), (1, .int x1), (2, .int x2), (3, .int x3)]) C dX7_readNumber_13 (by decide) rfl ?_
    refine a_iload C dX7_readNumber_15 0 rfl ?_
    refine a_iconst (v := (1 : Int32)) C dX7_readNumber_17 (by decide) ?_
    refine a_icmp_lt (tgt := 27) C dX7_readNumber_18 (by decide) (fun c13 => ?_) (fun c13 => ?_)
    · have e := ip c13 e
      refine a_aload_n C dX7_readNumber_27 rfl 1 rfl ?_
      refine a_iconst (v := (1 : Int32)) C dX7_readNumber_28 (by decide) ?_
      obtain ⟨u20, ec19, e⟩ := bA_some e
      obtain ⟨fs18, eo17⟩ := isC_some ec19
      obtain ⟨h14, e15, e⟩ := bA_some e
      refine a_callV (as := [.int (1 : Int32)]) (rest := []) C m_X7_fail im_X7_fail cb6 se_X7_X7_fail_X7_fail ml_X7_52 rfl (Nat.le_of_ble_eq_true rfl) (Nat.le_of_ble_eq_true rfl) (Nat.le_of_ble_eq_true rfl) (Nat.le_of_ble_eq_true rfl) (Nat.le_of_ble_eq_true rfl) dX7_readNumber_29 eo17 (k_X7_fail e15) rfl ?_
      show AW G lo 0 0 32 [(4, .int r6), (0, .ref (lo + x0)), (1, .int x1), (2, .int x2), (3, .int x3)] [] h14
      refine a_iconst (v := (0 : Int32)) C dX7_readNumber_32 (by decide) ?_
      obtain ⟨rfl, rfl⟩ := sp2 e
      exact a_iret C q (Nat.le_of_ble_eq_true rfl) (Nat.le_of_ble_eq_true rfl) dX7_readNumber_33
    · have e := iN c13 e
      refine a_iload C dX7_readNumber_21 0 rfl ?_
      refine a_iconst (v := (2 : Int32)) C dX7_readNumber_23 (by decide) ?_
      refine a_icmp_le (tgt := 34) C dX7_readNumber_24 (by decide) (fun c23 => ?_) (fun c23 => ?_)
      · have e := ip c23 e
        refine a_iconst (v := (0 : Int32)) C dX7_readNumber_34 (by decide) ?_
        refine a_istore (lv2 := [(5, .int (0 : Int32)), (4, .int r6), (0, .ref (lo + x0)), (1, .int x1), (2, .int x2), (3, .int x3)]) C dX7_readNumber_35 (by decide) rfl ?_
        refine a_aload_n C dX7_readNumber_37 rfl 2 rfl ?_
        obtain ⟨g25, e24, e⟩ := bA_some e
        refine a_getI C cb6 3 (by decide) fl_X7_30 rfl dX7_readNumber_38 e24 ?_
        refine a_istore (lv2 := [(6, .int g25), (5, .int (0 : Int32)), (4, .int r6), (0, .ref (lo + x0)), (1, .int x1), (2, .int x2), (3, .int x3)]) C dX7_readNumber_41 (by decide) rfl ?_
        refine a_sub [3, 4, 5, 6, 2, 1, 0] rfl (w_X7_readNumber_L43 C ?_ (Nat.le_of_ble_eq_true rfl) (Nat.le_of_ble_eq_true rfl) 2000 _ _ _ e)
        intro h33 y34 y35 e
        show AW G lo 0 0 79 [(0, .ref (lo + x0)), (1, .int x1), (2, .int x2), (3, .int x3), (4, .int r6), (5, .int y34), (6, .int y35)] [] h33
        refine a_iload C dX7_readNumber_79 5 rfl ?_
        refine a_iload_n C dX7_readNumber_81 rfl 1 rfl ?_
        obtain ⟨h37, eb39, e⟩ := bA_some e
        have jj38 : AW G lo 0 0 116 [(0, .ref (lo + x0)), (1, .int x1), (2, .int x2), (3, .int x3), (4, .int r6), (5, .int y34), (6, .int y35)] [] h37 := by
          refine a_iload C dX7_readNumber_116 5 rfl ?_
          obtain ⟨rfl, rfl⟩ := sp2 e
          exact a_iret C q (Nat.le_of_ble_eq_true rfl) (Nat.le_of_ble_eq_true rfl) dX7_readNumber_118
        have e := eb39
        refine a_icmp_lt (tgt := 97) C dX7_readNumber_82 (by decide) (fun c36 => ?_) (fun c36 => ?_)
        · have e := ip c36 e
          refine a_aload_n C dX7_readNumber_97 rfl 0 rfl ?_
          refine a_iconst (v := (2 : Int32)) C dX7_readNumber_98 (by decide) ?_
          obtain ⟨u46, ec45, e⟩ := bA_some e
          obtain ⟨fs44, eo43⟩ := isC_some ec45
          obtain ⟨h40, e41, e⟩ := bA_some e
          refine a_callV (as := [.int (2 : Int32)]) (rest := []) C m_X7_fail im_X7_fail cb6 se_X7_X7_fail_X7_fail ml_X7_52 rfl (Nat.le_of_ble_eq_true rfl) (Nat.le_of_ble_eq_true rfl) (Nat.le_of_ble_eq_true rfl) (Nat.le_of_ble_eq_true rfl) (Nat.le_of_ble_eq_true rfl) dX7_readNumber_99 eo43 (k_X7_fail e41) rfl ?_
          show AW G lo 0 0 102 [(0, .ref (lo + x0)), (1, .int x1), (2, .int x2), (3, .int x3), (4, .int r6), (5, .int y34), (6, .int y35)] [] h40
          refine a_goto (tgt := 116) C dX7_readNumber_102 (by decide) ?_
          obtain rfl := sp1 e
          exact a_widen (Nat.le_of_ble_eq_true rfl) (Nat.le_of_ble_eq_true rfl) (a_sub [0, 1, 2, 3, 4, 5, 6] rfl jj38)
        · have e := iN c36 e
          refine a_iload C dX7_readNumber_85 5 rfl ?_
          refine a_iload_n C dX7_readNumber_87 rfl 2 rfl ?_
          refine a_icmp_gt (tgt := 97) C dX7_readNumber_88 (by decide) (fun c49 => ?_) (fun c49 => ?_)
          · have e := ip c49 e
            refine a_aload_n C dX7_readNumber_97 rfl 0 rfl ?_
            refine a_iconst (v := (2 : Int32)) C dX7_readNumber_98 (by decide) ?_
            obtain ⟨u56, ec55, e⟩ := bA_some e
            obtain ⟨fs54, eo53⟩ := isC_some ec55
            obtain ⟨h50, e51, e⟩ := bA_some e
            refine a_callV (as := [.int (2 : Int32)]) (rest := []) C m_X7_fail im_X7_fail cb6 se_X7_X7_fail_X7_fail ml_X7_52 rfl (Nat.le_of_ble_eq_true rfl) (Nat.le_of_ble_eq_true rfl) (Nat.le_of_ble_eq_true rfl) (Nat.le_of_ble_eq_true rfl) (Nat.le_of_ble_eq_true rfl) dX7_readNumber_99 eo53 (k_X7_fail e51) rfl ?_
            show AW G lo 0 0 102 [(0, .ref (lo + x0)), (1, .int x1), (2, .int x2), (3, .int x3), (4, .int r6), (5, .int y34), (6, .int y35)] [] h50
            refine a_goto (tgt := 116) C dX7_readNumber_102 (by decide) ?_
            obtain rfl := sp1 e
            exact a_widen (Nat.le_of_ble_eq_true rfl) (Nat.le_of_ble_eq_true rfl) (a_sub [0, 1, 2, 3, 4, 5, 6] rfl jj38)
          · have e := iN c49 e
            refine a_iload C dX7_readNumber_91 5 rfl ?_
            refine a_iload_n C dX7_readNumber_93 rfl 3 rfl ?_
            refine a_icmp_ne (tgt := 105) C dX7_readNumber_94 (by decide) (fun c59 => ?_) (fun c59 => ?_)
            · have e := iN c59 e
              refine a_aload_n C dX7_readNumber_105 rfl 0 rfl ?_
              refine a_dup C dX7_readNumber_106 rfl ?_
              obtain ⟨g61, e60, e⟩ := bA_some e
              refine a_getI C cb6 3 (by decide) fl_X7_30 rfl dX7_readNumber_107 e60 ?_
              refine a_iload C dX7_readNumber_110 4 rfl ?_
              refine a_iadd C dX7_readNumber_112 ?_
              obtain ⟨h63, e62, e⟩ := bA_some e
              refine a_putI C cb6 3 (by decide) fl_X7_30 rfl (by decide +kernel) dX7_readNumber_113 e62 ?_
              obtain rfl := sp1 e
              exact a_widen (Nat.le_of_ble_eq_true rfl) (Nat.le_of_ble_eq_true rfl) (a_sub [0, 1, 2, 3, 4, 5, 6] rfl jj38)
            · have e := ip c59 e
              refine a_aload_n C dX7_readNumber_97 rfl 0 rfl ?_
              refine a_iconst (v := (2 : Int32)) C dX7_readNumber_98 (by decide) ?_
              obtain ⟨u70, ec69, e⟩ := bA_some e
              obtain ⟨fs68, eo67⟩ := isC_some ec69
              obtain ⟨h64, e65, e⟩ := bA_some e
              refine a_callV (as := [.int (2 : Int32)]) (rest := []) C m_X7_fail im_X7_fail cb6 se_X7_X7_fail_X7_fail ml_X7_52 rfl (Nat.le_of_ble_eq_true rfl) (Nat.le_of_ble_eq_true rfl) (Nat.le_of_ble_eq_true rfl) (Nat.le_of_ble_eq_true rfl) (Nat.le_of_ble_eq_true rfl) dX7_readNumber_99 eo67 (k_X7_fail e65) rfl ?_
              show AW G lo 0 0 102 [(0, .ref (lo + x0)), (1, .int x1), (2, .int x2), (3, .int x3), (4, .int r6), (5, .int y34), (6, .int y35)] [] h64
              refine a_goto (tgt := 116) C dX7_readNumber_102 (by decide) ?_
              obtain rfl := sp1 e
              exact a_widen (Nat.le_of_ble_eq_true rfl) (Nat.le_of_ble_eq_true rfl) (a_sub [0, 1, 2, 3, 4, 5, 6] rfl jj38)
      · have e := iN c23 e
        refine a_aload_n C dX7_readNumber_27 rfl 1 rfl ?_
        refine a_iconst (v := (1 : Int32)) C dX7_readNumber_28 (by decide) ?_
        obtain ⟨u79, ec78, e⟩ := bA_some e
        obtain ⟨fs77, eo76⟩ := isC_some ec78
        obtain ⟨h73, e74, e⟩ := bA_some e
        refine a_callV (as := [.int (1 : Int32)]) (rest := []) C m_X7_fail im_X7_fail cb6 se_X7_X7_fail_X7_fail ml_X7_52 rfl (Nat.le_of_ble_eq_true rfl) (Nat.le_of_ble_eq_true rfl) (Nat.le_of_ble_eq_true rfl) (Nat.le_of_ble_eq_true rfl) (Nat.le_of_ble_eq_true rfl) dX7_readNumber_29 eo76 (k_X7_fail e74) rfl ?_
        show AW G lo 0 0 32 [(4, .int r6), (0, .ref (lo + x0)), (1, .int x1), (2, .int x2), (3, .int x3)] [] h73
        refine a_iconst (v := (0 : Int32)) C dX7_readNumber_32 (by decide) ?_
        obtain ⟨rfl, rfl⟩ := sp2 e
        exact a_iret C q (Nat.le_of_ble_eq_true rfl) (Nat.le_of_ble_eq_true rfl) dX7_readNumber_33
  · have e := iN c3 e
    refine a_iconst (v := (0 : Int32)) C dX7_readNumber_7 (by decide) ?_
    obtain ⟨rfl, rfl⟩ := sp2 e
    exact a_iret C q (Nat.le_of_ble_eq_true rfl) (Nat.le_of_ble_eq_true rfl) dX7_readNumber_8

set_option maxRecDepth 100000 in
def f_X7_readLaw (h : Hp) (x0 : Nat) : Option (Hp) := bA (isC h x0 6) fun u7 => bA (f_X7_readSign h x0 (104 : Int32)) fun h1 => bA (gN h1 x0 6 1) fun a11 => bA (isC h1 x0 6) fun u18 => b2 (f_X7_readNumber h1 x0 (1 : Int32) (9 : Int32) (-1 : Int32)) fun r14 h12 => bA (pV h12 a11 2 5 (.inl r14)) fun h22 => bA (isC h22 x0 6) fun u29 => bA (f_X7_readSign h22 x0 (44 : Int32)) fun h23 => bA (gN h23 x0 6 1) fun a33 => bA (isC h23 x0 6) fun u40 => b2 (f_X7_readNumber h23 x0 (1 : Int32) (60 : Int32) (-1 : Int32)) fun r36 h34 => bA (pV h34 a33 2 6 (.inl r36)) fun h44 => bA (isC h44 x0 6) fun u51 => bA (f_X7_readSign h44 x0 (44 : Int32)) fun h45 => bA (gN h45 x0 6 1) fun a55 => bA (isC h45 x0 6) fun u62 => b2 (f_X7_readNumber h45 x0 (0 : Int32) (63 : Int32) (-1 : Int32)) fun r58 h56 => bA (pV h56 a55 2 7 (.inl r58)) fun h66 => bA (isC h66 x0 6) fun u73 => bA (f_X7_readSign h66 x0 (59 : Int32)) fun h67 => some h67

theorem m_X7_readLaw : MI yX7_readLaw cX7_readLaw 1 none 0 := ⟨co_X7_readLaw, ini_X7, by decide, by decide +kernel⟩
set_option maxRecDepth 100000 in
set_option maxHeartbeats 4000000 in
theorem k_X7_readLaw {lo : Nat} {h : Hp} {x0 : Nat} {h' : Hp} (e : f_X7_readLaw h x0 = some h') : ∀ l d, AC l d lo yX7_readLaw cX7_readLaw 1 none ({ frames := 3, cells := 0, slots := 0, locals := 62 } : Room) [.ref (lo + x0)] h none h' := by
  intro l d
  refine AC_of (by decide) (Nat.le_of_ble_eq_true rfl) ?_
  intro G C _ _ q
  unfold f_X7_readLaw at e
  show AW G lo 0 0 0 [(0, .ref (lo + x0))] [] h
  refine a_aload_n C dX7_readLaw_0 rfl 0 rfl ?_
  refine a_bipush (v := (104 : Int32)) C dX7_readLaw_1 (by decide) ?_
  obtain ⟨u7, ec6, e⟩ := bA_some e
  obtain ⟨fs5, eo4⟩ := isC_some ec6
  obtain ⟨h1, e2, e⟩ := bA_some e
  refine a_callV (as := [.int (104 : Int32)]) (rest := []) C m_X7_readSign im_X7_readSign cb6 se_X7_X7_readSign_X7_readSign ml_X7_66 rfl (Nat.le_of_ble_eq_true rfl) (Nat.le_of_ble_eq_true rfl) (Nat.le_of_ble_eq_true rfl) (Nat.le_of_ble_eq_true rfl) (Nat.le_of_ble_eq_true rfl) dX7_readLaw_3 eo4 (k_X7_readSign e2) rfl ?_
  show AW G lo 0 0 6 [(0, .ref (lo + x0))] [] h1
  refine a_aload_n C dX7_readLaw_6 rfl 0 rfl ?_
  obtain ⟨a11, e10, e⟩ := bA_some e
  refine a_getN C cb6 1 (by decide) fl_X7_18 rfl dX7_readLaw_7 e10 ?_
  refine a_aload_n C dX7_readLaw_10 rfl 0 rfl ?_
  refine a_iconst (v := (1 : Int32)) C dX7_readLaw_11 (by decide) ?_
  refine a_bipush (v := (9 : Int32)) C dX7_readLaw_12 (by decide) ?_
  refine a_iconst (v := (-1 : Int32)) C dX7_readLaw_14 (by decide) ?_
  obtain ⟨u18, ec17, e⟩ := bA_some e
  obtain ⟨fs16, eo15⟩ := isC_some ec17
  obtain ⟨r14, h12, e13, e⟩ := b2_some e
  refine a_callV (as := [.int (1 : Int32), .int (9 : Int32), .int (-1 : Int32)]) (rest := [.ref (lo + a11)]) C m_X7_readNumber im_X7_readNumber cb6 se_X7_X7_readNumber_X7_readNumber ml_X7_69 rfl (Nat.le_of_ble_eq_true rfl) (Nat.le_of_ble_eq_true rfl) (Nat.le_of_ble_eq_true rfl) (Nat.le_of_ble_eq_true rfl) (Nat.le_of_ble_eq_true rfl) dX7_readLaw_15 eo15 (k_X7_readNumber e13) rfl ?_
  show AW G lo 0 0 18 [(0, .ref (lo + x0))] [.int r14, .ref (lo + a11)] h12
  obtain ⟨h22, e21, e⟩ := bA_some e
  refine a_putI C cb2 5 (by decide) fl_X7_73 rfl (by decide +kernel) dX7_readLaw_18 e21 ?_
  refine a_aload_n C dX7_readLaw_21 rfl 0 rfl ?_
  refine a_bipush (v := (44 : Int32)) C dX7_readLaw_22 (by decide) ?_
  obtain ⟨u29, ec28, e⟩ := bA_some e
  obtain ⟨fs27, eo26⟩ := isC_some ec28
  obtain ⟨h23, e24, e⟩ := bA_some e
  refine a_callV (as := [.int (44 : Int32)]) (rest := []) C m_X7_readSign im_X7_readSign cb6 se_X7_X7_readSign_X7_readSign ml_X7_66 rfl (Nat.le_of_ble_eq_true rfl) (Nat.le_of_ble_eq_true rfl) (Nat.le_of_ble_eq_true rfl) (Nat.le_of_ble_eq_true rfl) (Nat.le_of_ble_eq_true rfl) dX7_readLaw_24 eo26 (k_X7_readSign e24) rfl ?_
  show AW G lo 0 0 27 [(0, .ref (lo + x0))] [] h23
  refine a_aload_n C dX7_readLaw_27 rfl 0 rfl ?_
  obtain ⟨a33, e32, e⟩ := bA_some e
  refine a_getN C cb6 1 (by decide) fl_X7_18 rfl dX7_readLaw_28 e32 ?_
  refine a_aload_n C dX7_readLaw_31 rfl 0 rfl ?_
  refine a_iconst (v := (1 : Int32)) C dX7_readLaw_32 (by decide) ?_
  refine a_bipush (v := (60 : Int32)) C dX7_readLaw_33 (by decide) ?_
  refine a_iconst (v := (-1 : Int32)) C dX7_readLaw_35 (by decide) ?_
  obtain ⟨u40, ec39, e⟩ := bA_some e
  obtain ⟨fs38, eo37⟩ := isC_some ec39
  obtain ⟨r36, h34, e35, e⟩ := b2_some e
  refine a_callV (as := [.int (1 : Int32), .int (60 : Int32), .int (-1 : Int32)]) (rest := [.ref (lo + a33)]) C m_X7_readNumber im_X7_readNumber cb6 se_X7_X7_readNumber_X7_readNumber ml_X7_69 rfl (Nat.le_of_ble_eq_true rfl) (Nat.le_of_ble_eq_true rfl) (Nat.le_of_ble_eq_true rfl) (Nat.le_of_ble_eq_true rfl) (Nat.le_of_ble_eq_true rfl) dX7_readLaw_36 eo37 (k_X7_readNumber e35) rfl ?_
  show AW G lo 0 0 39 [(0, .ref (lo + x0))] [.int r36, .ref (lo + a33)] h34
  obtain ⟨h44, e43, e⟩ := bA_some e
  refine a_putI C cb2 6 (by decide) fl_X7_76 rfl (by decide +kernel) dX7_readLaw_39 e43 ?_
  refine a_aload_n C dX7_readLaw_42 rfl 0 rfl ?_
  refine a_bipush (v := (44 : Int32)) C dX7_readLaw_43 (by decide) ?_
  obtain ⟨u51, ec50, e⟩ := bA_some e
  obtain ⟨fs49, eo48⟩ := isC_some ec50
  obtain ⟨h45, e46, e⟩ := bA_some e
  refine a_callV (as := [.int (44 : Int32)]) (rest := []) C m_X7_readSign im_X7_readSign cb6 se_X7_X7_readSign_X7_readSign ml_X7_66 rfl (Nat.le_of_ble_eq_true rfl) (Nat.le_of_ble_eq_true rfl) (Nat.le_of_ble_eq_true rfl) (Nat.le_of_ble_eq_true rfl) (Nat.le_of_ble_eq_true rfl) dX7_readLaw_45 eo48 (k_X7_readSign e46) rfl ?_
  show AW G lo 0 0 48 [(0, .ref (lo + x0))] [] h45
  refine a_aload_n C dX7_readLaw_48 rfl 0 rfl ?_
  obtain ⟨a55, e54, e⟩ := bA_some e
  refine a_getN C cb6 1 (by decide) fl_X7_18 rfl dX7_readLaw_49 e54 ?_
  refine a_aload_n C dX7_readLaw_52 rfl 0 rfl ?_
  refine a_iconst (v := (0 : Int32)) C dX7_readLaw_53 (by decide) ?_
  refine a_bipush (v := (63 : Int32)) C dX7_readLaw_54 (by decide) ?_
  refine a_iconst (v := (-1 : Int32)) C dX7_readLaw_56 (by decide) ?_
  obtain ⟨u62, ec61, e⟩ := bA_some e
  obtain ⟨fs60, eo59⟩ := isC_some ec61
  obtain ⟨r58, h56, e57, e⟩ := b2_some e
  refine a_callV (as := [.int (0 : Int32), .int (63 : Int32), .int (-1 : Int32)]) (rest := [.ref (lo + a55)]) C m_X7_readNumber im_X7_readNumber cb6 se_X7_X7_readNumber_X7_readNumber ml_X7_69 rfl (Nat.le_of_ble_eq_true rfl) (Nat.le_of_ble_eq_true rfl) (Nat.le_of_ble_eq_true rfl) (Nat.le_of_ble_eq_true rfl) (Nat.le_of_ble_eq_true rfl) dX7_readLaw_57 eo59 (k_X7_readNumber e57) rfl ?_
  show AW G lo 0 0 60 [(0, .ref (lo + x0))] [.int r58, .ref (lo + a55)] h56
  obtain ⟨h66, e65, e⟩ := bA_some e
  refine a_putI C cb2 7 (by decide) fl_X7_79 rfl (by decide +kernel) dX7_readLaw_60 e65 ?_
  refine a_aload_n C dX7_readLaw_63 rfl 0 rfl ?_
  refine a_bipush (v := (59 : Int32)) C dX7_readLaw_64 (by decide) ?_
  obtain ⟨u73, ec72, e⟩ := bA_some e
  obtain ⟨fs71, eo70⟩ := isC_some ec72
  obtain ⟨h67, e68, e⟩ := bA_some e
  refine a_callV (as := [.int (59 : Int32)]) (rest := []) C m_X7_readSign im_X7_readSign cb6 se_X7_X7_readSign_X7_readSign ml_X7_66 rfl (Nat.le_of_ble_eq_true rfl) (Nat.le_of_ble_eq_true rfl) (Nat.le_of_ble_eq_true rfl) (Nat.le_of_ble_eq_true rfl) (Nat.le_of_ble_eq_true rfl) dX7_readLaw_66 eo70 (k_X7_readSign e68) rfl ?_
  show AW G lo 0 0 69 [(0, .ref (lo + x0))] [] h67
  obtain rfl := sp1 e
  exact a_vret C q (Nat.le_of_ble_eq_true rfl) (Nat.le_of_ble_eq_true rfl) dX7_readLaw_69

set_option maxRecDepth 100000 in
def f_X7_readRoom (h : Hp) (x0 : Nat) : Option (Hp) := bA (gN h x0 6 1) fun a2 => bA (gI h a2 2 3) fun g4 => bA (if g4 < (8 : Int32) then some h else bA (isC h x0 6) fun u15 => bA (f_X7_fail h x0 (3 : Int32)) fun h9 => some h9) fun h6 => bA (isC h6 x0 6) fun u24 => bA (f_X7_readSign h6 x0 (114 : Int32)) fun h18 => bA (isC h18 x0 6) fun u33 => b2 (f_X7_readNumber h18 x0 (0 : Int32) (20 : Int32) (-1 : Int32)) fun r29 h27 => bA (isC h27 x0 6) fun u42 => bA (f_X7_readSign h27 x0 (59 : Int32)) fun h36 => bA (gI h36 x0 6 4) fun g46 => bA (if g46 = 0 then bA (gN h36 x0 6 1) fun a52 => bA (isC h36 a52 2) fun u59 => bA (f_X3_addRoom h36 a52 r29) fun h53 => some h53 else some h36) fun h48 => some h48

theorem m_X7_readRoom : MI yX7_readRoom cX7_readRoom 2 none 0 := ⟨co_X7_readRoom, ini_X7, by decide, by decide +kernel⟩
set_option maxRecDepth 100000 in
set_option maxHeartbeats 4000000 in
theorem k_X7_readRoom {lo : Nat} {h : Hp} {x0 : Nat} {h' : Hp} (e : f_X7_readRoom h x0 = some h') : ∀ l d, AC l d lo yX7_readRoom cX7_readRoom 2 none ({ frames := 3, cells := 0, slots := 0, locals := 62 } : Room) [.ref (lo + x0)] h none h' := by
  intro l d
  refine AC_of (by decide) (Nat.le_of_ble_eq_true rfl) ?_
  intro G C _ _ q
  unfold f_X7_readRoom at e
  show AW G lo 0 0 0 [(0, .ref (lo + x0))] [] h
  refine a_aload_n C dX7_readRoom_0 rfl 0 rfl ?_
  obtain ⟨a2, e1, e⟩ := bA_some e
  refine a_getN C cb6 1 (by decide) fl_X7_18 rfl dX7_readRoom_1 e1 ?_
  obtain ⟨g4, e3, e⟩ := bA_some e
  refine a_getI C cb2 3 (by decide) fl_X7_49 rfl dX7_readRoom_4 e3 ?_
  refine a_bipush (v := (8 : Int32)) C dX7_readRoom_7 (by decide) ?_
  obtain ⟨h6, eb8, e⟩ := bA_some e
  have jj7 : AW G lo 0 0 17 [(0, .ref (lo + x0))] [] h6 := by
    refine a_aload_n C dX7_readRoom_17 rfl 0 rfl ?_
    refine a_bipush (v := (114 : Int32)) C dX7_readRoom_18 (by decide) ?_
    obtain ⟨u24, ec23, e⟩ := bA_some e
    obtain ⟨fs22, eo21⟩ := isC_some ec23
    obtain ⟨h18, e19, e⟩ := bA_some e
    refine a_callV (as := [.int (114 : Int32)]) (rest := []) C m_X7_readSign im_X7_readSign cb6 se_X7_X7_readSign_X7_readSign ml_X7_66 rfl (Nat.le_of_ble_eq_true rfl) (Nat.le_of_ble_eq_true rfl) (Nat.le_of_ble_eq_true rfl) (Nat.le_of_ble_eq_true rfl) (Nat.le_of_ble_eq_true rfl) dX7_readRoom_20 eo21 (k_X7_readSign e19) rfl ?_
    show AW G lo 0 0 23 [(0, .ref (lo + x0))] [] h18
    refine a_aload_n C dX7_readRoom_23 rfl 0 rfl ?_
    refine a_iconst (v := (0 : Int32)) C dX7_readRoom_24 (by decide) ?_
    refine a_bipush (v := (20 : Int32)) C dX7_readRoom_25 (by decide) ?_
    refine a_iconst (v := (-1 : Int32)) C dX7_readRoom_27 (by decide) ?_
    obtain ⟨u33, ec32, e⟩ := bA_some e
    obtain ⟨fs31, eo30⟩ := isC_some ec32
    obtain ⟨r29, h27, e28, e⟩ := b2_some e
    refine a_callV (as := [.int (0 : Int32), .int (20 : Int32), .int (-1 : Int32)]) (rest := []) C m_X7_readNumber im_X7_readNumber cb6 se_X7_X7_readNumber_X7_readNumber ml_X7_69 rfl (Nat.le_of_ble_eq_true rfl) (Nat.le_of_ble_eq_true rfl) (Nat.le_of_ble_eq_true rfl) (Nat.le_of_ble_eq_true rfl) (Nat.le_of_ble_eq_true rfl) dX7_readRoom_28 eo30 (k_X7_readNumber e28) rfl ?_
    show AW G lo 0 0 31 [(0, .ref (lo + x0))] [.int r29] h27
    refine a_istore_n (lv2 := [(1, .int r29), (0, .ref (lo + x0))]) C dX7_readRoom_31 rfl (by decide) rfl ?_
    refine a_aload_n C dX7_readRoom_32 rfl 1 rfl ?_
    refine a_bipush (v := (59 : Int32)) C dX7_readRoom_33 (by decide) ?_
    obtain ⟨u42, ec41, e⟩ := bA_some e
    obtain ⟨fs40, eo39⟩ := isC_some ec41
    obtain ⟨h36, e37, e⟩ := bA_some e
    refine a_callV (as := [.int (59 : Int32)]) (rest := []) C m_X7_readSign im_X7_readSign cb6 se_X7_X7_readSign_X7_readSign ml_X7_66 rfl (Nat.le_of_ble_eq_true rfl) (Nat.le_of_ble_eq_true rfl) (Nat.le_of_ble_eq_true rfl) (Nat.le_of_ble_eq_true rfl) (Nat.le_of_ble_eq_true rfl) dX7_readRoom_35 eo39 (k_X7_readSign e37) rfl ?_
    show AW G lo 0 0 38 [(1, .int r29), (0, .ref (lo + x0))] [] h36
    refine a_aload_n C dX7_readRoom_38 rfl 1 rfl ?_
    obtain ⟨g46, e45, e⟩ := bA_some e
    refine a_getI C cb6 4 (by decide) fl_X7_33 rfl dX7_readRoom_39 e45 ?_
    obtain ⟨h48, eb50, e⟩ := bA_some e
    have jj49 : AW G lo 0 0 53 [(0, .ref (lo + x0)), (1, .int r29)] [] h48 := by
      obtain rfl := sp1 e
      exact a_vret C q (Nat.le_of_ble_eq_true rfl) (Nat.le_of_ble_eq_true rfl) dX7_readRoom_53
    have e := eb50
    refine a_if_ne (tgt := 53) C dX7_readRoom_42 (by decide) (fun c47 => ?_) (fun c47 => ?_)
    · have e := iN c47 e
      obtain rfl := sp1 e
      exact a_widen (Nat.le_of_ble_eq_true rfl) (Nat.le_of_ble_eq_true rfl) (a_sub [1, 0] rfl jj49)
    · have e := ip c47 e
      refine a_aload_n C dX7_readRoom_45 rfl 1 rfl ?_
      obtain ⟨a52, e51, e⟩ := bA_some e
      refine a_getN C cb6 1 (by decide) fl_X7_18 rfl dX7_readRoom_46 e51 ?_
      refine a_iload_n C dX7_readRoom_49 rfl 0 rfl ?_
      obtain ⟨u59, ec58, e⟩ := bA_some e
      obtain ⟨fs57, eo56⟩ := isC_some ec58
      obtain ⟨h53, e54, e⟩ := bA_some e
      refine a_callV (as := [.int r29]) (rest := []) C m_X3_addRoom im_X3_addRoom cb2 se_X3_X3_addRoom_X3_addRoom ml_X7_82 rfl (Nat.le_of_ble_eq_true rfl) (Nat.le_of_ble_eq_true rfl) (Nat.le_of_ble_eq_true rfl) (Nat.le_of_ble_eq_true rfl) (Nat.le_of_ble_eq_true rfl) dX7_readRoom_50 eo56 (k_X3_addRoom e54) rfl ?_
      show AW G lo 0 0 53 [(1, .int r29), (0, .ref (lo + x0))] [] h53
      obtain rfl := sp1 e
      exact a_widen (Nat.le_of_ble_eq_true rfl) (Nat.le_of_ble_eq_true rfl) (a_sub [1, 0] rfl jj49)
  have e := eb8
  refine a_icmp_lt (tgt := 17) C dX7_readRoom_9 (by decide) (fun c5 => ?_) (fun c5 => ?_)
  · have e := ip c5 e
    obtain rfl := sp1 e
    exact a_widen (Nat.le_of_ble_eq_true rfl) (Nat.le_of_ble_eq_true rfl) (a_sub [0] rfl jj7)
  · have e := iN c5 e
    refine a_aload_n C dX7_readRoom_12 rfl 0 rfl ?_
    refine a_iconst (v := (3 : Int32)) C dX7_readRoom_13 (by decide) ?_
    obtain ⟨u15, ec14, e⟩ := bA_some e
    obtain ⟨fs13, eo12⟩ := isC_some ec14
    obtain ⟨h9, e10, e⟩ := bA_some e
    refine a_callV (as := [.int (3 : Int32)]) (rest := []) C m_X7_fail im_X7_fail cb6 se_X7_X7_fail_X7_fail ml_X7_52 rfl (Nat.le_of_ble_eq_true rfl) (Nat.le_of_ble_eq_true rfl) (Nat.le_of_ble_eq_true rfl) (Nat.le_of_ble_eq_true rfl) (Nat.le_of_ble_eq_true rfl) dX7_readRoom_14 eo12 (k_X7_fail e10) rfl ?_
    show AW G lo 0 0 17 [(0, .ref (lo + x0))] [] h9
    obtain rfl := sp1 e
    exact a_widen (Nat.le_of_ble_eq_true rfl) (Nat.le_of_ble_eq_true rfl) (a_sub [0] rfl jj7)

set_option maxRecDepth 100000 in
def f_X7_readDoor (h : Hp) (x0 : Nat) : Option (Hp) := bA (gN h x0 6 1) fun a2 => bA (gI h a2 2 4) fun g4 => bA (if g4 < (8 : Int32) then some h else bA (isC h x0 6) fun u15 => bA (f_X7_fail h x0 (3 : Int32)) fun h9 => some h9) fun h6 => bA (isC h6 x0 6) fun u24 => b2 (f_X7_sortSeen h6 x0 ) fun r20 h18 => bA (isC h18 x0 6) fun u33 => b2 (f_X7_signHere h18 x0 ) fun r29 h27 => bA (isC h27 x0 6) fun u42 => bA (f_X7_readSign h27 x0 r29) fun h36 => bA (gN h36 x0 6 1) fun a46 => bA (gI h36 a46 2 3) fun g48 => bA (isC h36 x0 6) fun u55 => b2 (f_X7_readNumber h36 x0 (0 : Int32) (g48 - (1 : Int32)) (-1 : Int32)) fun r51 h49 => bA (isC h49 x0 6) fun u64 => bA (f_X7_readSign h49 x0 (44 : Int32)) fun h58 => bA (gN h58 x0 6 1) fun a68 => bA (gI h58 a68 2 3) fun g70 => bA (isC h58 x0 6) fun u77 => b2 (f_X7_readNumber h58 x0 (0 : Int32) (g70 - (1 : Int32)) r51) fun r73 h71 => bA (isC h71 x0 6) fun u86 => bA (f_X7_readSign h71 x0 (44 : Int32)) fun h80 => bA (isC h80 x0 6) fun u95 => b2 (f_X7_readNumber h80 x0 (0 : Int32) (9 : Int32) (-1 : Int32)) fun r91 h89 => bA (isC h89 x0 6) fun u104 => bA (f_X7_readSign h89 x0 (59 : Int32)) fun h98 => bA (gI h98 x0 6 4) fun g108 => bA (if g108 = 0 then bA (gN h98 x0 6 1) fun a114 => bA (isC h98 a114 2) fun u121 => bA (f_X3_addDoor h98 a114 r20 r51 r73 r91) fun h115 => some h115 else some h98) fun h110 => some h110

theorem m_X7_readDoor : MI yX7_readDoor cX7_readDoor 5 none 0 := ⟨co_X7_readDoor, ini_X7, by decide, by decide +kernel⟩
set_option maxRecDepth 100000 in
set_option maxHeartbeats 4000000 in
theorem k_X7_readDoor {lo : Nat} {h : Hp} {x0 : Nat} {h' : Hp} (e : f_X7_readDoor h x0 = some h') : ∀ l d, AC l d lo yX7_readDoor cX7_readDoor 5 none ({ frames := 6, cells := 1, slots := 4, locals := 140 } : Room) [.ref (lo + x0)] h none h' := by
  intro l d
  refine AC_of (by decide) (Nat.le_of_ble_eq_true rfl) ?_
  intro G C _ _ q
  unfold f_X7_readDoor at e
  show AW G lo 0 0 0 [(0, .ref (lo + x0))] [] h
  refine a_aload_n C dX7_readDoor_0 rfl 0 rfl ?_
  obtain ⟨a2, e1, e⟩ := bA_some e
  refine a_getN C cb6 1 (by decide) fl_X7_18 rfl dX7_readDoor_1 e1 ?_
  obtain ⟨g4, e3, e⟩ := bA_some e
  refine a_getI C cb2 4 (by decide) fl_X7_63 rfl dX7_readDoor_4 e3 ?_
  refine a_bipush (v := (8 : Int32)) C dX7_readDoor_7 (by decide) ?_
  obtain ⟨h6, eb8, e⟩ := bA_some e
  have jj7 : AW G lo 0 0 17 [(0, .ref (lo + x0))] [] h6 := by
    refine a_aload_n C dX7_readDoor_17 rfl 0 rfl ?_
    obtain ⟨u24, ec23, e⟩ := bA_some e
    obtain ⟨fs22, eo21⟩ := isC_some ec23
    obtain ⟨r20, h18, e19, e⟩ := b2_some e
    refine a_callV (as := []) (rest := []) C m_X7_sortSeen im_X7_sortSeen cb6 se_X7_X7_sortSeen_X7_sortSeen ml_X7_56 rfl (Nat.le_of_ble_eq_true rfl) (Nat.le_of_ble_eq_true rfl) (Nat.le_of_ble_eq_true rfl) (Nat.le_of_ble_eq_true rfl) (Nat.le_of_ble_eq_true rfl) dX7_readDoor_18 eo21 (k_X7_sortSeen e19) rfl ?_
    show AW G lo 0 0 21 [(0, .ref (lo + x0))] [.int r20] h18
    refine a_istore_n (lv2 := [(1, .int r20), (0, .ref (lo + x0))]) C dX7_readDoor_21 rfl (by decide) rfl ?_
    refine a_aload_n C dX7_readDoor_22 rfl 1 rfl ?_
    refine a_aload_n C dX7_readDoor_23 rfl 1 rfl ?_
    obtain ⟨u33, ec32, e⟩ := bA_some e
    obtain ⟨fs31, eo30⟩ := isC_some ec32
    obtain ⟨r29, h27, e28, e⟩ := b2_some e
    refine a_callV (as := []) (rest := [.ref (lo + x0)]) C m_X7_signHere im_X7_signHere cb6 se_X7_X7_signHere_X7_signHere ml_X7_85 rfl (Nat.le_of_ble_eq_true rfl) (Nat.le_of_ble_eq_true rfl) (Nat.le_of_ble_eq_true rfl) (Nat.le_of_ble_eq_true rfl) (Nat.le_of_ble_eq_true rfl) dX7_readDoor_24 eo30 (k_X7_signHere e28) rfl ?_
    show AW G lo 0 0 27 [(1, .int r20), (0, .ref (lo + x0))] [.int r29, .ref (lo + x0)] h27
    obtain ⟨u42, ec41, e⟩ := bA_some e
    obtain ⟨fs40, eo39⟩ := isC_some ec41
    obtain ⟨h36, e37, e⟩ := bA_some e
    refine a_callV (as := [.int r29]) (rest := []) C m_X7_readSign im_X7_readSign cb6 se_X7_X7_readSign_X7_readSign ml_X7_66 rfl (Nat.le_of_ble_eq_true rfl) (Nat.le_of_ble_eq_true rfl) (Nat.le_of_ble_eq_true rfl) (Nat.le_of_ble_eq_true rfl) (Nat.le_of_ble_eq_true rfl) dX7_readDoor_27 eo39 (k_X7_readSign e37) rfl ?_
    show AW G lo 0 0 30 [(1, .int r20), (0, .ref (lo + x0))] [] h36
    refine a_aload_n C dX7_readDoor_30 rfl 1 rfl ?_
    refine a_iconst (v := (0 : Int32)) C dX7_readDoor_31 (by decide) ?_
    refine a_aload_n C dX7_readDoor_32 rfl 1 rfl ?_
    obtain ⟨a46, e45, e⟩ := bA_some e
    refine a_getN C cb6 1 (by decide) fl_X7_18 rfl dX7_readDoor_33 e45 ?_
    obtain ⟨g48, e47, e⟩ := bA_some e
    refine a_getI C cb2 3 (by decide) fl_X7_49 rfl dX7_readDoor_36 e47 ?_
    refine a_iconst (v := (1 : Int32)) C dX7_readDoor_39 (by decide) ?_
    refine a_isub C dX7_readDoor_40 ?_
    refine a_iconst (v := (-1 : Int32)) C dX7_readDoor_41 (by decide) ?_
    obtain ⟨u55, ec54, e⟩ := bA_some e
    obtain ⟨fs53, eo52⟩ := isC_some ec54
    obtain ⟨r51, h49, e50, e⟩ := b2_some e
    refine a_callV (as := [.int (0 : Int32), .int (g48 - (1 : Int32)), .int (-1 : Int32)]) (rest := []) C m_X7_readNumber im_X7_readNumber cb6 se_X7_X7_readNumber_X7_readNumber ml_X7_69 rfl (Nat.le_of_ble_eq_true rfl) (Nat.le_of_ble_eq_true rfl) (Nat.le_of_ble_eq_true rfl) (Nat.le_of_ble_eq_true rfl) (Nat.le_of_ble_eq_true rfl) dX7_readDoor_42 eo52 (k_X7_readNumber e50) rfl ?_
    show AW G lo 0 0 45 [(1, .int r20), (0, .ref (lo + x0))] [.int r51] h49
    refine a_istore_n (lv2 := [(2, .int r51), (1, .int r20), (0, .ref (lo + x0))]) C dX7_readDoor_45 rfl (by decide) rfl ?_
    refine a_aload_n C dX7_readDoor_46 rfl 2 rfl ?_
    refine a_bipush (v := (44 : Int32)) C dX7_readDoor_47 (by decide) ?_
    obtain ⟨u64, ec63, e⟩ := bA_some e
    obtain ⟨fs62, eo61⟩ := isC_some ec63
    obtain ⟨h58, e59, e⟩ := bA_some e
    refine a_callV (as := [.int (44 : Int32)]) (rest := []) C m_X7_readSign im_X7_readSign cb6 se_X7_X7_readSign_X7_readSign ml_X7_66 rfl (Nat.le_of_ble_eq_true rfl) (Nat.le_of_ble_eq_true rfl) (Nat.le_of_ble_eq_true rfl) (Nat.le_of_ble_eq_true rfl) (Nat.le_of_ble_eq_true rfl) dX7_readDoor_49 eo61 (k_X7_readSign e59) rfl ?_
    show AW G lo 0 0 52 [(2, .int r51), (1, .int r20), (0, .ref (lo + x0))] [] h58
    refine a_aload_n C dX7_readDoor_52 rfl 2 rfl ?_
    refine a_iconst (v := (0 : Int32)) C dX7_readDoor_53 (by decide) ?_
    refine a_aload_n C dX7_readDoor_54 rfl 2 rfl ?_
    obtain ⟨a68, e67, e⟩ := bA_some e
    refine a_getN C cb6 1 (by decide) fl_X7_18 rfl dX7_readDoor_55 e67 ?_
    obtain ⟨g70, e69, e⟩ := bA_some e
    refine a_getI C cb2 3 (by decide) fl_X7_49 rfl dX7_readDoor_58 e69 ?_
    refine a_iconst (v := (1 : Int32)) C dX7_readDoor_61 (by decide) ?_
    refine a_isub C dX7_readDoor_62 ?_
    refine a_iload_n C dX7_readDoor_63 rfl 0 rfl ?_
    obtain ⟨u77, ec76, e⟩ := bA_some e
    obtain ⟨fs75, eo74⟩ := isC_some ec76
    obtain ⟨r73, h71, e72, e⟩ := b2_some e
    refine a_callV (as := [.int (0 : Int32), .int (g70 - (1 : Int32)), .int r51]) (rest := []) C m_X7_readNumber im_X7_readNumber cb6 se_X7_X7_readNumber_X7_readNumber ml_X7_69 rfl (Nat.le_of_ble_eq_true rfl) (Nat.le_of_ble_eq_true rfl) (Nat.le_of_ble_eq_true rfl) (Nat.le_of_ble_eq_true rfl) (Nat.le_of_ble_eq_true rfl) dX7_readDoor_64 eo74 (k_X7_readNumber e72) rfl ?_
    show AW G lo 0 0 67 [(2, .int r51), (1, .int r20), (0, .ref (lo + x0))] [.int r73] h71
    refine a_istore_n (lv2 := [(3, .int r73), (2, .int r51), (1, .int r20), (0, .ref (lo + x0))]) C dX7_readDoor_67 rfl (by decide) rfl ?_
    refine a_aload_n C dX7_readDoor_68 rfl 3 rfl ?_
    refine a_bipush (v := (44 : Int32)) C dX7_readDoor_69 (by decide) ?_
    obtain ⟨u86, ec85, e⟩ := bA_some e
    obtain ⟨fs84, eo83⟩ := isC_some ec85
    obtain ⟨h80, e81, e⟩ := bA_some e
    refine a_callV (as := [.int (44 : Int32)]) (rest := []) C m_X7_readSign im_X7_readSign cb6 se_X7_X7_readSign_X7_readSign ml_X7_66 rfl (Nat.le_of_ble_eq_true rfl) (Nat.le_of_ble_eq_true rfl) (Nat.le_of_ble_eq_true rfl) (Nat.le_of_ble_eq_true rfl) (Nat.le_of_ble_eq_true rfl) dX7_readDoor_71 eo83 (k_X7_readSign e81) rfl ?_
    show AW G lo 0 0 74 [(3, .int r73), (2, .int r51), (1, .int r20), (0, .ref (lo + x0))] [] h80
    refine a_aload_n C dX7_readDoor_74 rfl 3 rfl ?_
    refine a_iconst (v := (0 : Int32)) C dX7_readDoor_75 (by decide) ?_
    refine a_bipush (v := (9 : Int32)) C dX7_readDoor_76 (by decide) ?_
    refine a_iconst (v := (-1 : Int32)) C dX7_readDoor_78 (by decide) ?_
    obtain ⟨u95, ec94, e⟩ := bA_some e
    obtain ⟨fs93, eo92⟩ := isC_some ec94
    obtain ⟨r91, h89, e90, e⟩ := b2_some e
    refine a_callV (as := [.int (0 : Int32), .int (9 : Int32), .int (-1 : Int32)]) (rest := []) C m_X7_readNumber im_X7_readNumber cb6 se_X7_X7_readNumber_X7_readNumber ml_X7_69 rfl (Nat.le_of_ble_eq_true rfl) (Nat.le_of_ble_eq_true rfl) (Nat.le_of_ble_eq_true rfl) (Nat.le_of_ble_eq_true rfl) (Nat.le_of_ble_eq_true rfl) dX7_readDoor_79 eo92 (k_X7_readNumber e90) rfl ?_
    show AW G lo 0 0 82 [(3, .int r73), (2, .int r51), (1, .int r20), (0, .ref (lo + x0))] [.int r91] h89
    refine a_istore (lv2 := [(4, .int r91), (3, .int r73), (2, .int r51), (1, .int r20), (0, .ref (lo + x0))]) C dX7_readDoor_82 (by decide) rfl ?_
    refine a_aload_n C dX7_readDoor_84 rfl 4 rfl ?_
    refine a_bipush (v := (59 : Int32)) C dX7_readDoor_85 (by decide) ?_
    obtain ⟨u104, ec103, e⟩ := bA_some e
    obtain ⟨fs102, eo101⟩ := isC_some ec103
    obtain ⟨h98, e99, e⟩ := bA_some e
    refine a_callV (as := [.int (59 : Int32)]) (rest := []) C m_X7_readSign im_X7_readSign cb6 se_X7_X7_readSign_X7_readSign ml_X7_66 rfl (Nat.le_of_ble_eq_true rfl) (Nat.le_of_ble_eq_true rfl) (Nat.le_of_ble_eq_true rfl) (Nat.le_of_ble_eq_true rfl) (Nat.le_of_ble_eq_true rfl) dX7_readDoor_87 eo101 (k_X7_readSign e99) rfl ?_
    show AW G lo 0 0 90 [(4, .int r91), (3, .int r73), (2, .int r51), (1, .int r20), (0, .ref (lo + x0))] [] h98
    refine a_aload_n C dX7_readDoor_90 rfl 4 rfl ?_
    obtain ⟨g108, e107, e⟩ := bA_some e
    refine a_getI C cb6 4 (by decide) fl_X7_33 rfl dX7_readDoor_91 e107 ?_
    obtain ⟨h110, eb112, e⟩ := bA_some e
    have jj111 : AW G lo 1 4 109 [(0, .ref (lo + x0)), (1, .int r20), (2, .int r51), (3, .int r73), (4, .int r91)] [] h110 := by
      obtain rfl := sp1 e
      exact a_vret C q (Nat.le_of_ble_eq_true rfl) (Nat.le_of_ble_eq_true rfl) dX7_readDoor_109
    have e := eb112
    refine a_if_ne (tgt := 109) C dX7_readDoor_94 (by decide) (fun c109 => ?_) (fun c109 => ?_)
    · have e := iN c109 e
      obtain rfl := sp1 e
      exact a_widen (Nat.le_of_ble_eq_true rfl) (Nat.le_of_ble_eq_true rfl) (a_sub [4, 3, 2, 1, 0] rfl jj111)
    · have e := ip c109 e
      refine a_aload_n C dX7_readDoor_97 rfl 4 rfl ?_
      obtain ⟨a114, e113, e⟩ := bA_some e
      refine a_getN C cb6 1 (by decide) fl_X7_18 rfl dX7_readDoor_98 e113 ?_
      refine a_iload_n C dX7_readDoor_101 rfl 3 rfl ?_
      refine a_iload_n C dX7_readDoor_102 rfl 2 rfl ?_
      refine a_iload_n C dX7_readDoor_103 rfl 1 rfl ?_
      refine a_iload C dX7_readDoor_104 0 rfl ?_
      obtain ⟨u121, ec120, e⟩ := bA_some e
      obtain ⟨fs119, eo118⟩ := isC_some ec120
      obtain ⟨h115, e116, e⟩ := bA_some e
      refine a_callV (as := [.int r20, .int r51, .int r73, .int r91]) (rest := []) C m_X3_addDoor im_X3_addDoor cb2 se_X3_X3_addDoor_X3_addDoor ml_X7_88 rfl (Nat.le_of_ble_eq_true rfl) (Nat.le_of_ble_eq_true rfl) (Nat.le_of_ble_eq_true rfl) (Nat.le_of_ble_eq_true rfl) (Nat.le_of_ble_eq_true rfl) dX7_readDoor_106 eo118 (k_X3_addDoor e116) rfl ?_
      show AW G lo 1 4 109 [(4, .int r91), (3, .int r73), (2, .int r51), (1, .int r20), (0, .ref (lo + x0))] [] h115
      obtain rfl := sp1 e
      exact a_widen (Nat.le_of_ble_eq_true rfl) (Nat.le_of_ble_eq_true rfl) (a_sub [4, 3, 2, 1, 0] rfl jj111)
  have e := eb8
  refine a_icmp_lt (tgt := 17) C dX7_readDoor_9 (by decide) (fun c5 => ?_) (fun c5 => ?_)
  · have e := ip c5 e
    obtain rfl := sp1 e
    exact a_widen (Nat.le_of_ble_eq_true rfl) (Nat.le_of_ble_eq_true rfl) (a_sub [0] rfl jj7)
  · have e := iN c5 e
    refine a_aload_n C dX7_readDoor_12 rfl 0 rfl ?_
    refine a_iconst (v := (3 : Int32)) C dX7_readDoor_13 (by decide) ?_
    obtain ⟨u15, ec14, e⟩ := bA_some e
    obtain ⟨fs13, eo12⟩ := isC_some ec14
    obtain ⟨h9, e10, e⟩ := bA_some e
    refine a_callV (as := [.int (3 : Int32)]) (rest := []) C m_X7_fail im_X7_fail cb6 se_X7_X7_fail_X7_fail ml_X7_52 rfl (Nat.le_of_ble_eq_true rfl) (Nat.le_of_ble_eq_true rfl) (Nat.le_of_ble_eq_true rfl) (Nat.le_of_ble_eq_true rfl) (Nat.le_of_ble_eq_true rfl) dX7_readDoor_14 eo12 (k_X7_fail e10) rfl ?_
    show AW G lo 0 0 17 [(0, .ref (lo + x0))] [] h9
    obtain rfl := sp1 e
    exact a_widen (Nat.le_of_ble_eq_true rfl) (Nat.le_of_ble_eq_true rfl) (a_sub [0] rfl jj7)

set_option maxRecDepth 100000 in
def f_X7_read_L23 {β : Type} (k : Int32 → Hp → Option (β)) (x0 : Nat) : Nat → Hp → Int32 → Option (β)
  | 0, _, _ => none
  | fuel + 1, h, x1 => (if (110 : Int32) ≤ x1 then k x1 h else bA (gI h x0 6 4) fun g27 => (if g27 = 0 then bA (isC h x0 6) fun u35 => b2 (f_X7_sees h x0 (114 : Int32)) fun r31 h29 => (if r31 = 0 then k x1 h29 else bA (isC h29 x0 6) fun u45 => bA (f_X7_readRoom h29 x0 ) fun h39 => f_X7_read_L23 k x0 fuel h39 (x1 + (1 : Int32))) else k x1 h))

set_option maxRecDepth 100000 in
def f_X7_read_L73 {β : Type} (k : Int32 → Hp → Option (β)) (x0 : Nat) : Nat → Hp → Int32 → Option (β)
  | 0, _, _ => none
  | fuel + 1, h, x1 => (if (110 : Int32) ≤ x1 then k x1 h else bA (gI h x0 6 4) fun g69 => (if g69 = 0 then bA (isC h x0 6) fun u77 => b2 (f_X7_sortSeen h x0 ) fun r73 h71 => (if r73 = 0 then k x1 h71 else bA (isC h71 x0 6) fun u87 => bA (f_X7_readDoor h71 x0 ) fun h81 => f_X7_read_L73 k x0 fuel h81 (x1 + (1 : Int32))) else k x1 h))

set_option maxRecDepth 100000 in
def f_X7_read (h : Hp) (x0 : Nat) : Option (Hp) := bA (pV h x0 6 3 (.inl (0 : Int32))) fun h2 => bA (pV h2 x0 6 4 (.inl (0 : Int32))) fun h4 => bA (gN h4 x0 6 1) fun a6 => bA (isC h4 a6 2) fun u13 => bA (f_X3_clear h4 a6 ) fun h7 => bA (isC h7 x0 6) fun u22 => bA (f_X7_readLaw h7 x0 ) fun h16 => f_X7_read_L23 (fun y49 h48 => bA (gN h48 x0 6 1) fun a51 => bA (gI h48 a51 2 3) fun g53 => bA (if (2 : Int32) ≤ g53 then some h48 else bA (isC h48 x0 6) fun u64 => bA (f_X7_fail h48 x0 (1 : Int32)) fun h58 => some h58) fun h55 => f_X7_read_L73 (fun y91 h90 => bA (gN h90 x0 6 1) fun a93 => bA (gI h90 a93 2 4) fun g95 => bA (if g95 < (1 : Int32) then bA (isC h90 x0 6) fun u106 => bA (f_X7_fail h90 x0 (1 : Int32)) fun h100 => some h100 else bA (gI h90 x0 6 3) fun g110 => bA (gI h90 x0 6 2) fun g112 => (if g112 ≤ g110 then some h90 else bA (isC h90 x0 6) fun u120 => bA (f_X7_fail h90 x0 (1 : Int32)) fun h114 => some h114)) fun h97 => bA (pV h97 x0 6 2 (.inl (0 : Int32))) fun h124 => some h124) x0 120 h55 (0 : Int32)) x0 2000 h16 (0 : Int32)

theorem m_X7_read : MI yX7_read cX7_read 2 none 0 := ⟨co_X7_read, ini_X7, by decide, by decide +kernel⟩
set_option maxRecDepth 100000 in
set_option maxHeartbeats 4000000 in
theorem w_X7_read_L23 {G : Gm} {lo : Nat} {ce sl : Nat} (C : CX G lo cX7_read RX7 none ({ frames := 7, cells := 120, slots := 480, locals := 164 } : Room) 2) {β : Type} {res : β} {k : Int32 → Hp → Option (β)} {x0 : Nat} (hk : ∀ (h : Hp) (x1 : Int32), k x1 h = some res → AW G lo ce sl 55 [(0, .ref (lo + x0)), (1, .int x1)] [] h) (hce : ce ≤ 120) (hsl : sl ≤ 480) : ∀ (fuel : Nat) (h : Hp) (x1 : Int32), f_X7_read_L23 k x0 fuel h x1 = some res → AW G lo ce sl 23 [(0, .ref (lo + x0)), (1, .int x1)] [] h := by
  intro fuel
  induction fuel with
  | zero =>
    intro h x1 e
    cases (show (none : Option (β)) = some res from e)
  | succ fuel ih =>
    intro h x1 e
    rw [f_X7_read_L23] at e
    refine a_iload_n C dX7_read_23 rfl 1 rfl ?_
    refine a_bipush (v := (110 : Int32)) C dX7_read_24 (by decide) ?_
    refine a_icmp_ge (tgt := 55) C dX7_read_26 (by decide) (fun c25 => ?_) (fun c25 => ?_)
    · have e := ip c25 e
      exact a_sub [0, 1] rfl (hk _ _ e)
    · have e := iN c25 e
      refine a_aload_n C dX7_read_29 rfl 0 rfl ?_
      obtain ⟨g27, e26, e⟩ := bA_some e
      refine a_getI C cb6 4 (by decide) fl_X7_33 rfl dX7_read_30 e26 ?_
      refine a_if_ne (tgt := 55) C dX7_read_33 (by decide) (fun c28 => ?_) (fun c28 => ?_)
      · have e := iN c28 e
        exact a_sub [0, 1] rfl (hk _ _ e)
      · have e := ip c28 e
        refine a_aload_n C dX7_read_36 rfl 0 rfl ?_
        refine a_bipush (v := (114 : Int32)) C dX7_read_37 (by decide) ?_
        obtain ⟨u35, ec34, e⟩ := bA_some e
        obtain ⟨fs33, eo32⟩ := isC_some ec34
        obtain ⟨r31, h29, e30, e⟩ := b2_some e
        refine a_callV (as := [.int (114 : Int32)]) (rest := []) C m_X7_sees im_X7_sees cb6 se_X7_X7_sees_X7_sees ml_X7_42 rfl (Nat.le_of_ble_eq_true rfl) (Nat.le_of_ble_eq_true rfl) (by exact hce) (by exact hsl) (Nat.le_of_ble_eq_true rfl) dX7_read_39 eo32 (k_X7_sees e30) rfl ?_
        show AW G lo ce sl 42 [(0, .ref (lo + x0)), (1, .int x1)] [.int r31] h29
        refine a_if_eq (tgt := 55) C dX7_read_42 (by decide) (fun c38 => ?_) (fun c38 => ?_)
        · have e := ip c38 e
          exact a_sub [0, 1] rfl (hk _ _ e)
        · have e := iN c38 e
          refine a_aload_n C dX7_read_45 rfl 0 rfl ?_
          obtain ⟨u45, ec44, e⟩ := bA_some e
          obtain ⟨fs43, eo42⟩ := isC_some ec44
          obtain ⟨h39, e40, e⟩ := bA_some e
          refine a_callV (as := []) (rest := []) C m_X7_readRoom im_X7_readRoom cb6 se_X7_X7_readRoom_X7_readRoom ml_X7_46 rfl (Nat.le_of_ble_eq_true rfl) (Nat.le_of_ble_eq_true rfl) (by exact hce) (by exact hsl) (Nat.le_of_ble_eq_true rfl) dX7_read_46 eo42 (k_X7_readRoom e40) rfl ?_
          show AW G lo ce sl 49 [(0, .ref (lo + x0)), (1, .int x1)] [] h39
          refine a_iinc (v := x1 + (1 : Int32)) (lv2 := [(1, .int (x1 + (1 : Int32))), (0, .ref (lo + x0))]) C dX7_read_49 1 rfl rfl (by decide) rfl ?_
          refine a_goto (tgt := 23) C dX7_read_52 (by decide) ?_
          exact a_sub [1, 0] rfl (ih _ _ e)
set_option maxRecDepth 100000 in
set_option maxHeartbeats 4000000 in
theorem w_X7_read_L73 {G : Gm} {lo : Nat} (C : CX G lo cX7_read RX7 none ({ frames := 7, cells := 120, slots := 480, locals := 164 } : Room) 2) {β : Type} {res : β} {k : Int32 → Hp → Option (β)} {x0 : Nat} {cx sx : Nat} (hcx : cx ≤ 120) (hsx : sx ≤ 480) (hk : ∀ (h : Hp) (x1 : Int32), k x1 h = some res → AW G lo cx sx 103 [(0, .ref (lo + x0)), (1, .int x1)] [] h) : ∀ (fuel ce sl : Nat) (h : Hp) (x1 : Int32), ce + fuel * 1 ≤ cx → sl + fuel * 4 ≤ sx → f_X7_read_L73 k x0 fuel h x1 = some res → AW G lo ce sl 73 [(0, .ref (lo + x0)), (1, .int x1)] [] h := by
  intro fuel
  induction fuel with
  | zero =>
    intro ce sl h x1 _ _ e
    cases (show (none : Option (β)) = some res from e)
  | succ fuel ih =>
    intro ce sl h x1 hc1 hs1 e
    rw [f_X7_read_L73] at e
    refine a_iload_n C dX7_read_73 rfl 1 rfl ?_
    refine a_bipush (v := (110 : Int32)) C dX7_read_74 (by decide) ?_
    refine a_icmp_ge (tgt := 103) C dX7_read_76 (by decide) (fun c67 => ?_) (fun c67 => ?_)
    · have e := ip c67 e
      exact a_sub [0, 1] rfl (a_widen (by omega) (by omega) (hk _ _ e))
    · have e := iN c67 e
      refine a_aload_n C dX7_read_79 rfl 0 rfl ?_
      obtain ⟨g69, e68, e⟩ := bA_some e
      refine a_getI C cb6 4 (by decide) fl_X7_33 rfl dX7_read_80 e68 ?_
      refine a_if_ne (tgt := 103) C dX7_read_83 (by decide) (fun c70 => ?_) (fun c70 => ?_)
      · have e := iN c70 e
        exact a_sub [0, 1] rfl (a_widen (by omega) (by omega) (hk _ _ e))
      · have e := ip c70 e
        refine a_aload_n C dX7_read_86 rfl 0 rfl ?_
        obtain ⟨u77, ec76, e⟩ := bA_some e
        obtain ⟨fs75, eo74⟩ := isC_some ec76
        obtain ⟨r73, h71, e72, e⟩ := b2_some e
        refine a_callV (as := []) (rest := []) C m_X7_sortSeen im_X7_sortSeen cb6 se_X7_X7_sortSeen_X7_sortSeen ml_X7_56 rfl (Nat.le_of_ble_eq_true rfl) (Nat.le_of_ble_eq_true rfl) (by show ce ≤ (120 : Nat); omega) (by show sl ≤ (480 : Nat); omega) (Nat.le_of_ble_eq_true rfl) dX7_read_87 eo74 (k_X7_sortSeen e72) rfl ?_
        show AW G lo ce sl 90 [(0, .ref (lo + x0)), (1, .int x1)] [.int r73] h71
        refine a_if_eq (tgt := 103) C dX7_read_90 (by decide) (fun c80 => ?_) (fun c80 => ?_)
        · have e := ip c80 e
          exact a_sub [0, 1] rfl (a_widen (by omega) (by omega) (hk _ _ e))
        · have e := iN c80 e
          refine a_aload_n C dX7_read_93 rfl 0 rfl ?_
          obtain ⟨u87, ec86, e⟩ := bA_some e
          obtain ⟨fs85, eo84⟩ := isC_some ec86
          obtain ⟨h81, e82, e⟩ := bA_some e
          refine a_callV (as := []) (rest := []) C m_X7_readDoor im_X7_readDoor cb6 se_X7_X7_readDoor_X7_readDoor ml_X7_60 rfl (Nat.le_of_ble_eq_true rfl) (Nat.le_of_ble_eq_true rfl) (by show (ce + 1) ≤ (120 : Nat); omega) (by show (sl + 4) ≤ (480 : Nat); omega) (Nat.le_of_ble_eq_true rfl) dX7_read_94 eo84 (k_X7_readDoor e82) rfl ?_
          show AW G lo (ce + 1) (sl + 4) 97 [(0, .ref (lo + x0)), (1, .int x1)] [] h81
          refine a_iinc (v := x1 + (1 : Int32)) (lv2 := [(1, .int (x1 + (1 : Int32))), (0, .ref (lo + x0))]) C dX7_read_97 1 rfl rfl (by decide) rfl ?_
          refine a_goto (tgt := 73) C dX7_read_100 (by decide) ?_
          exact a_sub [1, 0] rfl (a_widen (ce2 := ce + 1) (sl2 := sl + 4) (by omega) (by omega) (ih _ _ _ _ (by omega) (by omega) e))
set_option maxRecDepth 100000 in
set_option maxHeartbeats 4000000 in
theorem k_X7_read {lo : Nat} {h : Hp} {x0 : Nat} {h' : Hp} (e : f_X7_read h x0 = some h') : ∀ l d, AC l d lo yX7_read cX7_read 2 none ({ frames := 7, cells := 120, slots := 480, locals := 164 } : Room) [.ref (lo + x0)] h none h' := by
  intro l d
  refine AC_of (by decide) (Nat.le_of_ble_eq_true rfl) ?_
  intro G C _ _ q
  unfold f_X7_read at e
  show AW G lo 0 0 0 [(0, .ref (lo + x0))] [] h
  refine a_aload_n C dX7_read_0 rfl 0 rfl ?_
  refine a_iconst (v := (0 : Int32)) C dX7_read_1 (by decide) ?_
  obtain ⟨h2, e1, e⟩ := bA_some e
  refine a_putI C cb6 3 (by decide) fl_X7_30 rfl (by decide +kernel) dX7_read_2 e1 ?_
  refine a_aload_n C dX7_read_5 rfl 0 rfl ?_
  refine a_iconst (v := (0 : Int32)) C dX7_read_6 (by decide) ?_
  obtain ⟨h4, e3, e⟩ := bA_some e
  refine a_putI C cb6 4 (by decide) fl_X7_33 rfl (by decide +kernel) dX7_read_7 e3 ?_
  refine a_aload_n C dX7_read_10 rfl 0 rfl ?_
  obtain ⟨a6, e5, e⟩ := bA_some e
  refine a_getN C cb6 1 (by decide) fl_X7_18 rfl dX7_read_11 e5 ?_
  obtain ⟨u13, ec12, e⟩ := bA_some e
  obtain ⟨fs11, eo10⟩ := isC_some ec12
  obtain ⟨h7, e8, e⟩ := bA_some e
  refine a_callV (as := []) (rest := []) C m_X3_clear im_X3_clear cb2 se_X3_X3_clear_X3_clear ml_X7_36 rfl (Nat.le_of_ble_eq_true rfl) (Nat.le_of_ble_eq_true rfl) (Nat.le_of_ble_eq_true rfl) (Nat.le_of_ble_eq_true rfl) (Nat.le_of_ble_eq_true rfl) dX7_read_14 eo10 (k_X3_clear e8) rfl ?_
  show AW G lo 0 0 17 [(0, .ref (lo + x0))] [] h7
  refine a_aload_n C dX7_read_17 rfl 0 rfl ?_
  obtain ⟨u22, ec21, e⟩ := bA_some e
  obtain ⟨fs20, eo19⟩ := isC_some ec21
  obtain ⟨h16, e17, e⟩ := bA_some e
  refine a_callV (as := []) (rest := []) C m_X7_readLaw im_X7_readLaw cb6 se_X7_X7_readLaw_X7_readLaw ml_X7_39 rfl (Nat.le_of_ble_eq_true rfl) (Nat.le_of_ble_eq_true rfl) (Nat.le_of_ble_eq_true rfl) (Nat.le_of_ble_eq_true rfl) (Nat.le_of_ble_eq_true rfl) dX7_read_18 eo19 (k_X7_readLaw e17) rfl ?_
  show AW G lo 0 0 21 [(0, .ref (lo + x0))] [] h16
  refine a_iconst (v := (0 : Int32)) C dX7_read_21 (by decide) ?_
  refine a_istore_n (lv2 := [(1, .int (0 : Int32)), (0, .ref (lo + x0))]) C dX7_read_22 rfl (by decide) rfl ?_
  refine a_sub [1, 0] rfl (w_X7_read_L23 C ?_ (Nat.le_of_ble_eq_true rfl) (Nat.le_of_ble_eq_true rfl) 2000 _ _ e)
  intro h48 y49 e
  show AW G lo 0 0 55 [(0, .ref (lo + x0)), (1, .int y49)] [] h48
  refine a_aload_n C dX7_read_55 rfl 0 rfl ?_
  obtain ⟨a51, e50, e⟩ := bA_some e
  refine a_getN C cb6 1 (by decide) fl_X7_18 rfl dX7_read_56 e50 ?_
  obtain ⟨g53, e52, e⟩ := bA_some e
  refine a_getI C cb2 3 (by decide) fl_X7_49 rfl dX7_read_59 e52 ?_
  refine a_iconst (v := (2 : Int32)) C dX7_read_62 (by decide) ?_
  obtain ⟨h55, eb57, e⟩ := bA_some e
  have jj56 : AW G lo 0 0 71 [(0, .ref (lo + x0)), (1, .int y49)] [] h55 := by
    refine a_iconst (v := (0 : Int32)) C dX7_read_71 (by decide) ?_
    refine a_istore_n (lv2 := [(1, .int (0 : Int32)), (0, .ref (lo + x0))]) C dX7_read_72 rfl (by decide) rfl ?_
    refine a_sub [1, 0] rfl (w_X7_read_L73 (cx := 120) (sx := 480) C (Nat.le_of_ble_eq_true rfl) (Nat.le_of_ble_eq_true rfl) ?_ 120 _ _ _ _ (Nat.le_of_ble_eq_true rfl) (Nat.le_of_ble_eq_true rfl) e)
    intro h90 y91 e
    show AW G lo 120 480 103 [(0, .ref (lo + x0)), (1, .int y91)] [] h90
    refine a_aload_n C dX7_read_103 rfl 0 rfl ?_
    obtain ⟨a93, e92, e⟩ := bA_some e
    refine a_getN C cb6 1 (by decide) fl_X7_18 rfl dX7_read_104 e92 ?_
    obtain ⟨g95, e94, e⟩ := bA_some e
    refine a_getI C cb2 4 (by decide) fl_X7_63 rfl dX7_read_107 e94 ?_
    refine a_iconst (v := (1 : Int32)) C dX7_read_110 (by decide) ?_
    obtain ⟨h97, eb99, e⟩ := bA_some e
    have jj98 : AW G lo 120 480 130 [(0, .ref (lo + x0)), (1, .int y91)] [] h97 := by
      refine a_aload_n C dX7_read_130 rfl 0 rfl ?_
      refine a_iconst (v := (0 : Int32)) C dX7_read_131 (by decide) ?_
      obtain ⟨h124, e123, e⟩ := bA_some e
      refine a_putI C cb6 2 (by decide) fl_X7_22 rfl (by decide +kernel) dX7_read_132 e123 ?_
      obtain rfl := sp1 e
      exact a_vret C q (Nat.le_of_ble_eq_true rfl) (Nat.le_of_ble_eq_true rfl) dX7_read_135
    have e := eb99
    refine a_icmp_lt (tgt := 125) C dX7_read_111 (by decide) (fun c96 => ?_) (fun c96 => ?_)
    · have e := ip c96 e
      refine a_aload_n C dX7_read_125 rfl 0 rfl ?_
      refine a_iconst (v := (1 : Int32)) C dX7_read_126 (by decide) ?_
      obtain ⟨u106, ec105, e⟩ := bA_some e
      obtain ⟨fs104, eo103⟩ := isC_some ec105
      obtain ⟨h100, e101, e⟩ := bA_some e
      refine a_callV (as := [.int (1 : Int32)]) (rest := []) C m_X7_fail im_X7_fail cb6 se_X7_X7_fail_X7_fail ml_X7_52 rfl (Nat.le_of_ble_eq_true rfl) (Nat.le_of_ble_eq_true rfl) (Nat.le_of_ble_eq_true rfl) (Nat.le_of_ble_eq_true rfl) (Nat.le_of_ble_eq_true rfl) dX7_read_127 eo103 (k_X7_fail e101) rfl ?_
      show AW G lo 120 480 130 [(0, .ref (lo + x0)), (1, .int y91)] [] h100
      obtain rfl := sp1 e
      exact a_widen (Nat.le_of_ble_eq_true rfl) (Nat.le_of_ble_eq_true rfl) (a_sub [0, 1] rfl jj98)
    · have e := iN c96 e
      refine a_aload_n C dX7_read_114 rfl 0 rfl ?_
      obtain ⟨g110, e109, e⟩ := bA_some e
      refine a_getI C cb6 3 (by decide) fl_X7_30 rfl dX7_read_115 e109 ?_
      refine a_aload_n C dX7_read_118 rfl 0 rfl ?_
      obtain ⟨g112, e111, e⟩ := bA_some e
      refine a_getI C cb6 2 (by decide) fl_X7_22 rfl dX7_read_119 e111 ?_
      refine a_icmp_ge (tgt := 130) C dX7_read_122 (by decide) (fun c113 => ?_) (fun c113 => ?_)
      · have e := ip c113 e
        obtain rfl := sp1 e
        exact a_widen (Nat.le_of_ble_eq_true rfl) (Nat.le_of_ble_eq_true rfl) (a_sub [0, 1] rfl jj98)
      · have e := iN c113 e
        refine a_aload_n C dX7_read_125 rfl 0 rfl ?_
        refine a_iconst (v := (1 : Int32)) C dX7_read_126 (by decide) ?_
        obtain ⟨u120, ec119, e⟩ := bA_some e
        obtain ⟨fs118, eo117⟩ := isC_some ec119
        obtain ⟨h114, e115, e⟩ := bA_some e
        refine a_callV (as := [.int (1 : Int32)]) (rest := []) C m_X7_fail im_X7_fail cb6 se_X7_X7_fail_X7_fail ml_X7_52 rfl (Nat.le_of_ble_eq_true rfl) (Nat.le_of_ble_eq_true rfl) (Nat.le_of_ble_eq_true rfl) (Nat.le_of_ble_eq_true rfl) (Nat.le_of_ble_eq_true rfl) dX7_read_127 eo117 (k_X7_fail e115) rfl ?_
        show AW G lo 120 480 130 [(0, .ref (lo + x0)), (1, .int y91)] [] h114
        obtain rfl := sp1 e
        exact a_widen (Nat.le_of_ble_eq_true rfl) (Nat.le_of_ble_eq_true rfl) (a_sub [0, 1] rfl jj98)
  have e := eb57
  refine a_icmp_ge (tgt := 71) C dX7_read_63 (by decide) (fun c54 => ?_) (fun c54 => ?_)
  · have e := ip c54 e
    obtain rfl := sp1 e
    exact a_widen (Nat.le_of_ble_eq_true rfl) (Nat.le_of_ble_eq_true rfl) (a_sub [0, 1] rfl jj56)
  · have e := iN c54 e
    refine a_aload_n C dX7_read_66 rfl 0 rfl ?_
    refine a_iconst (v := (1 : Int32)) C dX7_read_67 (by decide) ?_
    obtain ⟨u64, ec63, e⟩ := bA_some e
    obtain ⟨fs62, eo61⟩ := isC_some ec63
    obtain ⟨h58, e59, e⟩ := bA_some e
    refine a_callV (as := [.int (1 : Int32)]) (rest := []) C m_X7_fail im_X7_fail cb6 se_X7_X7_fail_X7_fail ml_X7_52 rfl (Nat.le_of_ble_eq_true rfl) (Nat.le_of_ble_eq_true rfl) (Nat.le_of_ble_eq_true rfl) (Nat.le_of_ble_eq_true rfl) (Nat.le_of_ble_eq_true rfl) dX7_read_68 eo61 (k_X7_fail e59) rfl ?_
    show AW G lo 0 0 71 [(0, .ref (lo + x0)), (1, .int y49)] [] h58
    obtain rfl := sp1 e
    exact a_widen (Nat.le_of_ble_eq_true rfl) (Nat.le_of_ble_eq_true rfl) (a_sub [0, 1] rfl jj56)
