set_option maxRecDepth 100000 in
def f_X2_init (h : Hp) (x0 : Nat) (x1 : Int32) (x2 : Int32) (x3 : Int32) (x4 : Int32) : Option (Hp) := bA (pD h x0 0 (.inl x1)) fun h2 => bA (pD h2 x0 1 (.inl x2)) fun h4 => bA (pD h4 x0 2 (.inl x3)) fun h6 => bA (pD h6 x0 3 (.inl x4)) fun h8 => some h8

theorem m_X2_init : MI yX2_init cX2_init 5 none 4 := ⟨co_X2_init, ini_X2, by decide, by decide +kernel⟩
set_option maxRecDepth 100000 in
set_option maxHeartbeats 4000000 in
theorem k_X2_init {lo : Nat} {h : Hp} {x0 : Nat} {x1 : Int32} {x2 : Int32} {x3 : Int32} {x4 : Int32} {h' : Hp} (e : f_X2_init h x0 x1 x2 x3 x4 = some h') : ∀ l d, AC l d lo yX2_init cX2_init 5 none ({ frames := 1, cells := 0, slots := 0, locals := 20 } : Room) [.ref (lo + x0), .int x1, .int x2, .int x3, .int x4] h none h' := by
  intro l d
  refine AC_of (by decide) (Nat.le_of_ble_eq_true rfl) ?_
  intro G C hN _ q
  unfold f_X2_init at e
  show AW G lo 0 0 0 [(0, .ref (lo + x0)), (1, .int x1), (2, .int x2), (3, .int x3), (4, .int x4)] [] h
  refine a_aload_n C dX2_init_0 rfl 0 rfl ?_
  refine a_objinit C ml_X2_1 im_objinit co_objinit (Nat.le_of_ble_eq_true rfl) (Nat.le_of_ble_eq_true rfl) dX2_init_1 ?_
  refine a_aload_n C dX2_init_4 rfl 0 rfl ?_
  refine a_iload_n C dX2_init_5 rfl 1 rfl ?_
  obtain ⟨h2, e1, e⟩ := bA_some e
  refine a_putFI C hN 0 (by decide) fl_X2_7 rfl rfl (by decide +kernel) dX2_init_6 e1 ?_
  refine a_aload_n C dX2_init_9 rfl 0 rfl ?_
  refine a_iload_n C dX2_init_10 rfl 2 rfl ?_
  obtain ⟨h4, e3, e⟩ := bA_some e
  refine a_putFI C hN 1 (by decide) fl_X2_13 rfl rfl (by decide +kernel) dX2_init_11 e3 ?_
  refine a_aload_n C dX2_init_14 rfl 0 rfl ?_
  refine a_iload_n C dX2_init_15 rfl 3 rfl ?_
  obtain ⟨h6, e5, e⟩ := bA_some e
  refine a_putFI C hN 2 (by decide) fl_X2_16 rfl rfl (by decide +kernel) dX2_init_16 e5 ?_
  refine a_aload_n C dX2_init_19 rfl 0 rfl ?_
  refine a_iload C dX2_init_20 4 rfl ?_
  obtain ⟨h8, e7, e⟩ := bA_some e
  refine a_putFI C hN 3 (by decide) fl_X2_19 rfl rfl (by decide +kernel) dX2_init_22 e7 ?_
  obtain rfl := sp1 e
  exact a_vret C q (Nat.le_of_ble_eq_true rfl) (Nat.le_of_ble_eq_true rfl) dX2_init_25

set_option maxRecDepth 100000 in
def f_X4_init (h : Hp) (x0 : Nat) (x1 : Int32) (x2 : Int32) (x3 : Int32) (x4 : Int32) : Option (Hp) := bA (f_X2_init h x0 x1 x2 x3 x4) fun h1 => some h1

theorem m_X4_init : MI yX4_init cX4_init 5 none 4 := ⟨co_X4_init, ini_X4, by decide, by decide +kernel⟩
set_option maxRecDepth 100000 in
set_option maxHeartbeats 4000000 in
theorem k_X4_init {lo : Nat} {h : Hp} {x0 : Nat} {x1 : Int32} {x2 : Int32} {x3 : Int32} {x4 : Int32} {h' : Hp} (e : f_X4_init h x0 x1 x2 x3 x4 = some h') : ∀ l d, AC l d lo yX4_init cX4_init 5 none ({ frames := 2, cells := 0, slots := 0, locals := 44 } : Room) [.ref (lo + x0), .int x1, .int x2, .int x3, .int x4] h none h' := by
  intro l d
  refine AC_of (by decide) (Nat.le_of_ble_eq_true rfl) ?_
  intro G C hN _ q
  unfold f_X4_init at e
  show AW G lo 0 0 0 [(0, .ref (lo + x0)), (1, .int x1), (2, .int x2), (3, .int x3), (4, .int x4)] [] h
  refine a_aload_n C dX4_init_0 rfl 0 rfl ?_
  refine a_iload_n C dX4_init_1 rfl 1 rfl ?_
  refine a_iload_n C dX4_init_2 rfl 2 rfl ?_
  refine a_iload_n C dX4_init_3 rfl 3 rfl ?_
  refine a_iload C dX4_init_4 4 rfl ?_
  obtain ⟨h1, e2, e⟩ := bA_some e
  refine a_callI (as := [.int x1, .int x2, .int x3, .int x4]) (rest := []) C m_X2_init rfl im_X2_init ml_X4_1 rfl (Nat.le_of_ble_eq_true rfl) (Nat.le_of_ble_eq_true rfl) (Nat.le_of_ble_eq_true rfl) (Nat.le_of_ble_eq_true rfl) (Nat.le_of_ble_eq_true rfl) dX4_init_6 (k_X2_init e2) rfl ?_
  show AW G lo 0 0 9 [(0, .ref (lo + x0)), (1, .int x1), (2, .int x2), (3, .int x3), (4, .int x4)] [] h1
  obtain rfl := sp1 e
  exact a_vret C q (Nat.le_of_ble_eq_true rfl) (Nat.le_of_ble_eq_true rfl) dX4_init_9

set_option maxRecDepth 100000 in
def f_X0_init (h : Hp) (x0 : Nat) (x1 : Int32) (x2 : Int32) (x3 : Int32) (x4 : Int32) : Option (Hp) := bA (f_X4_init h x0 x1 x2 x3 x4) fun h1 => some h1

theorem m_X0_init : MI yX0_init cX0_init 5 none 4 := ⟨co_X0_init, ini_X0, by decide, by decide +kernel⟩
set_option maxRecDepth 100000 in
set_option maxHeartbeats 4000000 in
theorem k_X0_init {lo : Nat} {h : Hp} {x0 : Nat} {x1 : Int32} {x2 : Int32} {x3 : Int32} {x4 : Int32} {h' : Hp} (e : f_X0_init h x0 x1 x2 x3 x4 = some h') : ∀ l d, AC l d lo yX0_init cX0_init 5 none ({ frames := 3, cells := 0, slots := 0, locals := 68 } : Room) [.ref (lo + x0), .int x1, .int x2, .int x3, .int x4] h none h' := by
  intro l d
  refine AC_of (by decide) (Nat.le_of_ble_eq_true rfl) ?_
  intro G C hN _ q
  unfold f_X0_init at e
  show AW G lo 0 0 0 [(0, .ref (lo + x0)), (1, .int x1), (2, .int x2), (3, .int x3), (4, .int x4)] [] h
  refine a_aload_n C dX0_init_0 rfl 0 rfl ?_
  refine a_iload_n C dX0_init_1 rfl 1 rfl ?_
  refine a_iload_n C dX0_init_2 rfl 2 rfl ?_
  refine a_iload_n C dX0_init_3 rfl 3 rfl ?_
  refine a_iload C dX0_init_4 4 rfl ?_
  obtain ⟨h1, e2, e⟩ := bA_some e
  refine a_callI (as := [.int x1, .int x2, .int x3, .int x4]) (rest := []) C m_X4_init rfl im_X4_init ml_X0_1 rfl (Nat.le_of_ble_eq_true rfl) (Nat.le_of_ble_eq_true rfl) (Nat.le_of_ble_eq_true rfl) (Nat.le_of_ble_eq_true rfl) (Nat.le_of_ble_eq_true rfl) dX0_init_6 (k_X4_init e2) rfl ?_
  show AW G lo 0 0 9 [(0, .ref (lo + x0)), (1, .int x1), (2, .int x2), (3, .int x3), (4, .int x4)] [] h1
  obtain rfl := sp1 e
  exact a_vret C q (Nat.le_of_ble_eq_true rfl) (Nat.le_of_ble_eq_true rfl) dX0_init_9

set_option maxRecDepth 100000 in
def f_X1_init (h : Hp) (x0 : Nat) (x1 : Int32) (x2 : Int32) (x3 : Int32) (x4 : Int32) : Option (Hp) := bA (f_X4_init h x0 x1 x2 x3 x4) fun h1 => some h1

theorem m_X1_init : MI yX1_init cX1_init 5 none 4 := ⟨co_X1_init, ini_X1, by decide, by decide +kernel⟩
set_option maxRecDepth 100000 in
set_option maxHeartbeats 4000000 in
theorem k_X1_init {lo : Nat} {h : Hp} {x0 : Nat} {x1 : Int32} {x2 : Int32} {x3 : Int32} {x4 : Int32} {h' : Hp} (e : f_X1_init h x0 x1 x2 x3 x4 = some h') : ∀ l d, AC l d lo yX1_init cX1_init 5 none ({ frames := 3, cells := 0, slots := 0, locals := 68 } : Room) [.ref (lo + x0), .int x1, .int x2, .int x3, .int x4] h none h' := by
  intro l d
  refine AC_of (by decide) (Nat.le_of_ble_eq_true rfl) ?_
  intro G C hN _ q
  unfold f_X1_init at e
  show AW G lo 0 0 0 [(0, .ref (lo + x0)), (1, .int x1), (2, .int x2), (3, .int x3), (4, .int x4)] [] h
  refine a_aload_n C dX1_init_0 rfl 0 rfl ?_
  refine a_iload_n C dX1_init_1 rfl 1 rfl ?_
  refine a_iload_n C dX1_init_2 rfl 2 rfl ?_
  refine a_iload_n C dX1_init_3 rfl 3 rfl ?_
  refine a_iload C dX1_init_4 4 rfl ?_
  obtain ⟨h1, e2, e⟩ := bA_some e
  refine a_callI (as := [.int x1, .int x2, .int x3, .int x4]) (rest := []) C m_X4_init rfl im_X4_init ml_X1_1 rfl (Nat.le_of_ble_eq_true rfl) (Nat.le_of_ble_eq_true rfl) (Nat.le_of_ble_eq_true rfl) (Nat.le_of_ble_eq_true rfl) (Nat.le_of_ble_eq_true rfl) dX1_init_6 (k_X4_init e2) rfl ?_
  show AW G lo 0 0 9 [(0, .ref (lo + x0)), (1, .int x1), (2, .int x2), (3, .int x3), (4, .int x4)] [] h1
  obtain rfl := sp1 e
  exact a_vret C q (Nat.le_of_ble_eq_true rfl) (Nat.le_of_ble_eq_true rfl) dX1_init_9

set_option maxRecDepth 100000 in
def f_X5_init (h : Hp) (x0 : Nat) (x1 : Int32) (x2 : Int32) (x3 : Int32) (x4 : Int32) : Option (Hp) := bA (f_X2_init h x0 x1 x2 x3 x4) fun h1 => some h1

theorem m_X5_init : MI yX5_init cX5_init 5 none 4 := ⟨co_X5_init, ini_X5, by decide, by decide +kernel⟩
set_option maxRecDepth 100000 in
set_option maxHeartbeats 4000000 in
theorem k_X5_init {lo : Nat} {h : Hp} {x0 : Nat} {x1 : Int32} {x2 : Int32} {x3 : Int32} {x4 : Int32} {h' : Hp} (e : f_X5_init h x0 x1 x2 x3 x4 = some h') : ∀ l d, AC l d lo yX5_init cX5_init 5 none ({ frames := 2, cells := 0, slots := 0, locals := 44 } : Room) [.ref (lo + x0), .int x1, .int x2, .int x3, .int x4] h none h' := by
  intro l d
  refine AC_of (by decide) (Nat.le_of_ble_eq_true rfl) ?_
  intro G C hN _ q
  unfold f_X5_init at e
  show AW G lo 0 0 0 [(0, .ref (lo + x0)), (1, .int x1), (2, .int x2), (3, .int x3), (4, .int x4)] [] h
  refine a_aload_n C dX5_init_0 rfl 0 rfl ?_
  refine a_iload_n C dX5_init_1 rfl 1 rfl ?_
  refine a_iload_n C dX5_init_2 rfl 2 rfl ?_
  refine a_iload_n C dX5_init_3 rfl 3 rfl ?_
  refine a_iload C dX5_init_4 4 rfl ?_
  obtain ⟨h1, e2, e⟩ := bA_some e
  refine a_callI (as := [.int x1, .int x2, .int x3, .int x4]) (rest := []) C m_X2_init rfl im_X2_init ml_X5_1 rfl (Nat.le_of_ble_eq_true rfl) (Nat.le_of_ble_eq_true rfl) (Nat.le_of_ble_eq_true rfl) (Nat.le_of_ble_eq_true rfl) (Nat.le_of_ble_eq_true rfl) dX5_init_6 (k_X2_init e2) rfl ?_
  show AW G lo 0 0 9 [(0, .ref (lo + x0)), (1, .int x1), (2, .int x2), (3, .int x3), (4, .int x4)] [] h1
  obtain rfl := sp1 e
  exact a_vret C q (Nat.le_of_ble_eq_true rfl) (Nat.le_of_ble_eq_true rfl) dX5_init_9

set_option maxRecDepth 100000 in
def f_X9_init (h : Hp) (x0 : Nat) (x1 : Int32) (x2 : Int32) (x3 : Int32) (x4 : Int32) : Option (Hp) := bA (f_X5_init h x0 x1 x2 x3 x4) fun h1 => some h1

theorem m_X9_init : MI yX9_init cX9_init 5 none 4 := ⟨co_X9_init, ini_X9, by decide, by decide +kernel⟩
set_option maxRecDepth 100000 in
set_option maxHeartbeats 4000000 in
theorem k_X9_init {lo : Nat} {h : Hp} {x0 : Nat} {x1 : Int32} {x2 : Int32} {x3 : Int32} {x4 : Int32} {h' : Hp} (e : f_X9_init h x0 x1 x2 x3 x4 = some h') : ∀ l d, AC l d lo yX9_init cX9_init 5 none ({ frames := 3, cells := 0, slots := 0, locals := 68 } : Room) [.ref (lo + x0), .int x1, .int x2, .int x3, .int x4] h none h' := by
  intro l d
  refine AC_of (by decide) (Nat.le_of_ble_eq_true rfl) ?_
  intro G C hN _ q
  unfold f_X9_init at e
  show AW G lo 0 0 0 [(0, .ref (lo + x0)), (1, .int x1), (2, .int x2), (3, .int x3), (4, .int x4)] [] h
  refine a_aload_n C dX9_init_0 rfl 0 rfl ?_
  refine a_iload_n C dX9_init_1 rfl 1 rfl ?_
  refine a_iload_n C dX9_init_2 rfl 2 rfl ?_
  refine a_iload_n C dX9_init_3 rfl 3 rfl ?_
  refine a_iload C dX9_init_4 4 rfl ?_
  obtain ⟨h1, e2, e⟩ := bA_some e
  refine a_callI (as := [.int x1, .int x2, .int x3, .int x4]) (rest := []) C m_X5_init rfl im_X5_init ml_X9_1 rfl (Nat.le_of_ble_eq_true rfl) (Nat.le_of_ble_eq_true rfl) (Nat.le_of_ble_eq_true rfl) (Nat.le_of_ble_eq_true rfl) (Nat.le_of_ble_eq_true rfl) dX9_init_6 (k_X5_init e2) rfl ?_
  show AW G lo 0 0 9 [(0, .ref (lo + x0)), (1, .int x1), (2, .int x2), (3, .int x3), (4, .int x4)] [] h1
  obtain rfl := sp1 e
  exact a_vret C q (Nat.le_of_ble_eq_true rfl) (Nat.le_of_ble_eq_true rfl) dX9_init_9

set_option maxRecDepth 100000 in
def f_X2_of (h : Hp) (x0 : Int32) (x1 : Int32) (x2 : Int32) (x3 : Int32) (x4 : Int32) : Option (Option Nat × Hp) := (if x0 = (2 : Int32) then nw h (.inr (.inr (0, [.inl 0, .inl 0, .inl 0, .inl 0]))) fun q4 h3 => bA (f_X0_init h3 q4 x1 x2 x3 x4) fun h5 => some ((some q4), h5) else (if x0 = (3 : Int32) then nw h (.inr (.inr (1, [.inl 0, .inl 0, .inl 0, .inl 0]))) fun q15 h14 => bA (f_X1_init h14 q15 x1 x2 x3 x4) fun h16 => some ((some q15), h16) else (if x0 = (4 : Int32) then nw h (.inr (.inr (4, [.inl 0, .inl 0, .inl 0, .inl 0]))) fun q26 h25 => bA (f_X5_init h25 q26 x1 x2 x3 x4) fun h27 => some ((some q26), h27) else (if x0 = (5 : Int32) then nw h (.inr (.inr (8, [.inl 0, .inl 0, .inl 0, .inl 0]))) fun q37 h36 => bA (f_X9_init h36 q37 x1 x2 x3 x4) fun h38 => some ((some q37), h38) else nw h (.inr (.inr (3, [.inl 0, .inl 0, .inl 0, .inl 0]))) fun q47 h46 => bA (f_X4_init h46 q47 x1 x2 x3 x4) fun h48 => some ((some q47), h48)))))

theorem m_X2_of : MI yX2_of cX2_of 5 (some (.object "DoorsBehind$Door")) 5 := ⟨co_X2_of, ini_X2, by decide, by decide +kernel⟩
set_option maxRecDepth 100000 in
set_option maxHeartbeats 4000000 in
theorem k_X2_of {lo : Nat} {h : Hp} {x0 : Int32} {x1 : Int32} {x2 : Int32} {x3 : Int32} {x4 : Int32} {r : Option Nat} {h' : Hp} (e : f_X2_of h x0 x1 x2 x3 x4 = some (r, h')) : ∀ l d, AC l d lo yX2_of cX2_of 5 (some (.object "DoorsBehind$Door")) ({ frames := 4, cells := 1, slots := 4, locals := 92 } : Room) [.int x0, .int x1, .int x2, .int x3, .int x4] h (some (va_rf (rl lo r))) h' := by
  intro l d
  refine AC_of (by decide) (Nat.le_of_ble_eq_true rfl) ?_
  intro G C _ _ q
  unfold f_X2_of at e
  show AW G lo 0 0 0 [(0, .int x0), (1, .int x1), (2, .int x2), (3, .int x3), (4, .int x4)] [] h
  refine a_iload_n C dX2_of_0 rfl 0 rfl ?_
  have hxx1 : x0 = x0 := rfl
  by_cases c2 : x0 = (2 : Int32)
  · have e := ip c2 e
    refine a_tableIn (tgt := 32) C dX2_of_1 (by rw [c2]; decide) (by rw [c2]; decide) (by rw [c2]; first | done | rfl) (by decide) ?_
    refine a_new C cb0 [.inl 0, .inl 0, .inl 0, .inl 0] kl_X2_22 ins_X0 ini_X0 (by decide) rfl (Nat.le_of_ble_eq_true rfl) (Nat.le_of_ble_eq_true rfl) dX2_of_32 ?_
    obtain ⟨q4, h3, e0_q4, e1_h3, e⟩ := nw_some e
    rw [← e0_q4, ← e1_h3]
    show AW G lo 1 4 35 [(0, .int x0), (1, .int x1), (2, .int x2), (3, .int x3), (4, .int x4)] [.ref (lo + q4)] h3
    refine a_dup C dX2_of_35 rfl ?_
    refine a_iload_n C dX2_of_36 rfl 1 rfl ?_
    refine a_iload_n C dX2_of_37 rfl 2 rfl ?_
    refine a_iload_n C dX2_of_38 rfl 3 rfl ?_
    refine a_iload C dX2_of_39 4 rfl ?_
    obtain ⟨h5, e6, e⟩ := bA_some e
    refine a_callI (as := [.int x1, .int x2, .int x3, .int x4]) (rest := [.ref (lo + q4)]) C m_X0_init rfl im_X0_init ml_X2_24 rfl (Nat.le_of_ble_eq_true rfl) (Nat.le_of_ble_eq_true rfl) (Nat.le_of_ble_eq_true rfl) (Nat.le_of_ble_eq_true rfl) (Nat.le_of_ble_eq_true rfl) dX2_of_41 (k_X0_init e6) rfl ?_
    show AW G lo 1 4 44 [(0, .int x0), (1, .int x1), (2, .int x2), (3, .int x3), (4, .int x4)] [.ref (lo + q4)] h5
    obtain ⟨rfl, rfl⟩ := sp2 e
    exact a_aret (r := (some q4)) C q (Nat.le_of_ble_eq_true rfl) (Nat.le_of_ble_eq_true rfl) dX2_of_44
  have e := iN c2 e
  by_cases c13 : x0 = (3 : Int32)
  · have e := ip c13 e
    refine a_tableIn (tgt := 45) C dX2_of_1 (by rw [c13]; decide) (by rw [c13]; decide) (by rw [c13]; first | done | rfl) (by decide) ?_
    refine a_new C cb1 [.inl 0, .inl 0, .inl 0, .inl 0] kl_X2_27 ins_X1 ini_X1 (by decide) rfl (Nat.le_of_ble_eq_true rfl) (Nat.le_of_ble_eq_true rfl) dX2_of_45 ?_
    obtain ⟨q15, h14, e0_q15, e1_h14, e⟩ := nw_some e
    rw [← e0_q15, ← e1_h14]
    show AW G lo 1 4 48 [(0, .int x0), (1, .int x1), (2, .int x2), (3, .int x3), (4, .int x4)] [.ref (lo + q15)] h14
    refine a_dup C dX2_of_48 rfl ?_
    refine a_iload_n C dX2_of_49 rfl 1 rfl ?_
    refine a_iload_n C dX2_of_50 rfl 2 rfl ?_
    refine a_iload_n C dX2_of_51 rfl 3 rfl ?_
    refine a_iload C dX2_of_52 4 rfl ?_
    obtain ⟨h16, e17, e⟩ := bA_some e
    refine a_callI (as := [.int x1, .int x2, .int x3, .int x4]) (rest := [.ref (lo + q15)]) C m_X1_init rfl im_X1_init ml_X2_29 rfl (Nat.le_of_ble_eq_true rfl) (Nat.le_of_ble_eq_true rfl) (Nat.le_of_ble_eq_true rfl) (Nat.le_of_ble_eq_true rfl) (Nat.le_of_ble_eq_true rfl) dX2_of_54 (k_X1_init e17) rfl ?_
    show AW G lo 1 4 57 [(0, .int x0), (1, .int x1), (2, .int x2), (3, .int x3), (4, .int x4)] [.ref (lo + q15)] h16
    obtain ⟨rfl, rfl⟩ := sp2 e
    exact a_aret (r := (some q15)) C q (Nat.le_of_ble_eq_true rfl) (Nat.le_of_ble_eq_true rfl) dX2_of_57
  have e := iN c13 e
  by_cases c24 : x0 = (4 : Int32)
  · have e := ip c24 e
    refine a_tableIn (tgt := 58) C dX2_of_1 (by rw [c24]; decide) (by rw [c24]; decide) (by rw [c24]; first | done | rfl) (by decide) ?_
    refine a_new C cb4 [.inl 0, .inl 0, .inl 0, .inl 0] kl_X2_30 ins_X5 ini_X5 (by decide) rfl (Nat.le_of_ble_eq_true rfl) (Nat.le_of_ble_eq_true rfl) dX2_of_58 ?_
    obtain ⟨q26, h25, e0_q26, e1_h25, e⟩ := nw_some e
    rw [← e0_q26, ← e1_h25]
    show AW G lo 1 4 61 [(0, .int x0), (1, .int x1), (2, .int x2), (3, .int x3), (4, .int x4)] [.ref (lo + q26)] h25
    refine a_dup C dX2_of_61 rfl ?_
    refine a_iload_n C dX2_of_62 rfl 1 rfl ?_
    refine a_iload_n C dX2_of_63 rfl 2 rfl ?_
    refine a_iload_n C dX2_of_64 rfl 3 rfl ?_
    refine a_iload C dX2_of_65 4 rfl ?_
    obtain ⟨h27, e28, e⟩ := bA_some e
    refine a_callI (as := [.int x1, .int x2, .int x3, .int x4]) (rest := [.ref (lo + q26)]) C m_X5_init rfl im_X5_init ml_X2_32 rfl (Nat.le_of_ble_eq_true rfl) (Nat.le_of_ble_eq_true rfl) (Nat.le_of_ble_eq_true rfl) (Nat.le_of_ble_eq_true rfl) (Nat.le_of_ble_eq_true rfl) dX2_of_67 (k_X5_init e28) rfl ?_
    show AW G lo 1 4 70 [(0, .int x0), (1, .int x1), (2, .int x2), (3, .int x3), (4, .int x4)] [.ref (lo + q26)] h27
    obtain ⟨rfl, rfl⟩ := sp2 e
    exact a_aret (r := (some q26)) C q (Nat.le_of_ble_eq_true rfl) (Nat.le_of_ble_eq_true rfl) dX2_of_70
  have e := iN c24 e
  by_cases c35 : x0 = (5 : Int32)
  · have e := ip c35 e
    refine a_tableIn (tgt := 71) C dX2_of_1 (by rw [c35]; decide) (by rw [c35]; decide) (by rw [c35]; first | done | rfl) (by decide) ?_
    refine a_new C cb8 [.inl 0, .inl 0, .inl 0, .inl 0] kl_X2_33 ins_X9 ini_X9 (by decide) rfl (Nat.le_of_ble_eq_true rfl) (Nat.le_of_ble_eq_true rfl) dX2_of_71 ?_
    obtain ⟨q37, h36, e0_q37, e1_h36, e⟩ := nw_some e
    rw [← e0_q37, ← e1_h36]
    show AW G lo 1 4 74 [(0, .int x0), (1, .int x1), (2, .int x2), (3, .int x3), (4, .int x4)] [.ref (lo + q37)] h36
    refine a_dup C dX2_of_74 rfl ?_
    refine a_iload_n C dX2_of_75 rfl 1 rfl ?_
    refine a_iload_n C dX2_of_76 rfl 2 rfl ?_
    refine a_iload_n C dX2_of_77 rfl 3 rfl ?_
    refine a_iload C dX2_of_78 4 rfl ?_
    obtain ⟨h38, e39, e⟩ := bA_some e
    refine a_callI (as := [.int x1, .int x2, .int x3, .int x4]) (rest := [.ref (lo + q37)]) C m_X9_init rfl im_X9_init ml_X2_35 rfl (Nat.le_of_ble_eq_true rfl) (Nat.le_of_ble_eq_true rfl) (Nat.le_of_ble_eq_true rfl) (Nat.le_of_ble_eq_true rfl) (Nat.le_of_ble_eq_true rfl) dX2_of_80 (k_X9_init e39) rfl ?_
    show AW G lo 1 4 83 [(0, .int x0), (1, .int x1), (2, .int x2), (3, .int x3), (4, .int x4)] [.ref (lo + q37)] h38
    obtain ⟨rfl, rfl⟩ := sp2 e
    exact a_aret (r := (some q37)) C q (Nat.le_of_ble_eq_true rfl) (Nat.le_of_ble_eq_true rfl) dX2_of_83
  have e := iN c35 e
  refine a_tableOut (tgt := 84) C dX2_of_1 (Classical.byContradiction fun hz => ?_) (by decide) ?_
  · have hz2 : x0.toInt = 2 ∨ x0.toInt = 3 ∨ x0.toInt = 4 ∨ x0.toInt = 5 := by omega
    rcases hz2 with hz3 | hz3 | hz3 | hz3
    · exact c2 (Int32.toInt_inj.mp (hz3.trans (by decide)))
    · exact c13 (Int32.toInt_inj.mp (hz3.trans (by decide)))
    · exact c24 (Int32.toInt_inj.mp (hz3.trans (by decide)))
    · exact c35 (Int32.toInt_inj.mp (hz3.trans (by decide)))
  · refine a_new C cb3 [.inl 0, .inl 0, .inl 0, .inl 0] kl_X2_36 ins_X4 ini_X4 (by decide) rfl (Nat.le_of_ble_eq_true rfl) (Nat.le_of_ble_eq_true rfl) dX2_of_84 ?_
    obtain ⟨q47, h46, e0_q47, e1_h46, e⟩ := nw_some e
    rw [← e0_q47, ← e1_h46]
    show AW G lo 1 4 87 [(0, .int x0), (1, .int x1), (2, .int x2), (3, .int x3), (4, .int x4)] [.ref (lo + q47)] h46
    refine a_dup C dX2_of_87 rfl ?_
    refine a_iload_n C dX2_of_88 rfl 1 rfl ?_
    refine a_iload_n C dX2_of_89 rfl 2 rfl ?_
    refine a_iload_n C dX2_of_90 rfl 3 rfl ?_
    refine a_iload C dX2_of_91 4 rfl ?_
    obtain ⟨h48, e49, e⟩ := bA_some e
    refine a_callI (as := [.int x1, .int x2, .int x3, .int x4]) (rest := [.ref (lo + q47)]) C m_X4_init rfl im_X4_init ml_X2_38 rfl (Nat.le_of_ble_eq_true rfl) (Nat.le_of_ble_eq_true rfl) (Nat.le_of_ble_eq_true rfl) (Nat.le_of_ble_eq_true rfl) (Nat.le_of_ble_eq_true rfl) dX2_of_93 (k_X4_init e49) rfl ?_
    show AW G lo 1 4 96 [(0, .int x0), (1, .int x1), (2, .int x2), (3, .int x3), (4, .int x4)] [.ref (lo + q47)] h48
    obtain ⟨rfl, rfl⟩ := sp2 e
    exact a_aret (r := (some q47)) C q (Nat.le_of_ble_eq_true rfl) (Nat.le_of_ble_eq_true rfl) dX2_of_96

set_option maxRecDepth 100000 in
def f_X0_sort (h : Hp) (x0 : Nat) : Option (Int32 × Hp) := some ((2 : Int32), h)

theorem m_X0_sort : MI yX0_sort cX0_sort 1 (some .int) 0 := ⟨co_X0_sort, ini_X0, by decide, by decide +kernel⟩
set_option maxRecDepth 100000 in
set_option maxHeartbeats 4000000 in
theorem k_X0_sort {lo : Nat} {h : Hp} {x0 : Nat} {r : Int32} {h' : Hp} (e : f_X0_sort h x0 = some (r, h')) : ∀ l d, AC l d lo yX0_sort cX0_sort 1 (some .int) ({ frames := 0, cells := 0, slots := 0, locals := 0 } : Room) [.ref (lo + x0)] h (some (.int r)) h' := by
  intro l d
  refine AC_of (by decide) (Nat.le_of_ble_eq_true rfl) ?_
  intro G C _ _ q
  unfold f_X0_sort at e
  show AW G lo 0 0 0 [(0, .ref (lo + x0))] [] h
  refine a_iconst (v := (2 : Int32)) C dX0_sort_0 (by decide) ?_
  obtain ⟨rfl, rfl⟩ := sp2 e
  exact a_iret C q (Nat.le_of_ble_eq_true rfl) (Nat.le_of_ble_eq_true rfl) dX0_sort_1

set_option maxRecDepth 100000 in
set_option maxHeartbeats 4000000 in
theorem kv_X0_sort {lo : Nat} {h : Hp} {x0 : Nat} {r : Int32} {h' : Hp} (e : f_X0_sort h x0 = some (r, h')) : ∀ l d, AC l d lo yX0_sort cX0_sort 1 (some .int) ({ frames := 0, cells := 0, slots := 0, locals := 0 } : Room) [.ref (lo + x0)] h (some (.int r)) h' := by
  intro l d
  refine AC_of (by decide) (Nat.le_of_ble_eq_true rfl) ?_
  intro G C _ _ q
  unfold f_X0_sort at e
  show AW G lo 0 0 0 [(0, .ref (lo + x0))] [] h
  refine a_iconst (v := (2 : Int32)) C dX0_sort_0 (by decide) ?_
  obtain ⟨rfl, rfl⟩ := sp2 e
  exact a_iret C q (Nat.le_of_ble_eq_true rfl) (Nat.le_of_ble_eq_true rfl) dX0_sort_1

set_option maxRecDepth 100000 in
def f_X1_sort (h : Hp) (x0 : Nat) : Option (Int32 × Hp) := some ((3 : Int32), h)

theorem m_X1_sort : MI yX1_sort cX1_sort 1 (some .int) 0 := ⟨co_X1_sort, ini_X1, by decide, by decide +kernel⟩
set_option maxRecDepth 100000 in
set_option maxHeartbeats 4000000 in
theorem k_X1_sort {lo : Nat} {h : Hp} {x0 : Nat} {r : Int32} {h' : Hp} (e : f_X1_sort h x0 = some (r, h')) : ∀ l d, AC l d lo yX1_sort cX1_sort 1 (some .int) ({ frames := 0, cells := 0, slots := 0, locals := 0 } : Room) [.ref (lo + x0)] h (some (.int r)) h' := by
  intro l d
  refine AC_of (by decide) (Nat.le_of_ble_eq_true rfl) ?_
  intro G C _ _ q
  unfold f_X1_sort at e
  show AW G lo 0 0 0 [(0, .ref (lo + x0))] [] h
  refine a_iconst (v := (3 : Int32)) C dX1_sort_0 (by decide) ?_
  obtain ⟨rfl, rfl⟩ := sp2 e
  exact a_iret C q (Nat.le_of_ble_eq_true rfl) (Nat.le_of_ble_eq_true rfl) dX1_sort_1

set_option maxRecDepth 100000 in
set_option maxHeartbeats 4000000 in
theorem kv_X1_sort {lo : Nat} {h : Hp} {x0 : Nat} {r : Int32} {h' : Hp} (e : f_X1_sort h x0 = some (r, h')) : ∀ l d, AC l d lo yX1_sort cX1_sort 1 (some .int) ({ frames := 0, cells := 0, slots := 0, locals := 0 } : Room) [.ref (lo + x0)] h (some (.int r)) h' := by
  intro l d
  refine AC_of (by decide) (Nat.le_of_ble_eq_true rfl) ?_
  intro G C _ _ q
  unfold f_X1_sort at e
  show AW G lo 0 0 0 [(0, .ref (lo + x0))] [] h
  refine a_iconst (v := (3 : Int32)) C dX1_sort_0 (by decide) ?_
  obtain ⟨rfl, rfl⟩ := sp2 e
  exact a_iret C q (Nat.le_of_ble_eq_true rfl) (Nat.le_of_ble_eq_true rfl) dX1_sort_1

set_option maxRecDepth 100000 in
def f_X4_sort (h : Hp) (x0 : Nat) : Option (Int32 × Hp) := some ((1 : Int32), h)

theorem m_X4_sort : MI yX4_sort cX4_sort 1 (some .int) 0 := ⟨co_X4_sort, ini_X4, by decide, by decide +kernel⟩
set_option maxRecDepth 100000 in
set_option maxHeartbeats 4000000 in
theorem k_X4_sort {lo : Nat} {h : Hp} {x0 : Nat} {r : Int32} {h' : Hp} (e : f_X4_sort h x0 = some (r, h')) : ∀ l d, AC l d lo yX4_sort cX4_sort 1 (some .int) ({ frames := 0, cells := 0, slots := 0, locals := 0 } : Room) [.ref (lo + x0)] h (some (.int r)) h' := by
  intro l d
  refine AC_of (by decide) (Nat.le_of_ble_eq_true rfl) ?_
  intro G C _ _ q
  unfold f_X4_sort at e
  show AW G lo 0 0 0 [(0, .ref (lo + x0))] [] h
  refine a_iconst (v := (1 : Int32)) C dX4_sort_0 (by decide) ?_
  obtain ⟨rfl, rfl⟩ := sp2 e
  exact a_iret C q (Nat.le_of_ble_eq_true rfl) (Nat.le_of_ble_eq_true rfl) dX4_sort_1

set_option maxRecDepth 100000 in
set_option maxHeartbeats 4000000 in
theorem kv_X4_sort {lo : Nat} {h : Hp} {x0 : Nat} {r : Int32} {h' : Hp} (e : f_X4_sort h x0 = some (r, h')) : ∀ l d, AC l d lo yX4_sort cX4_sort 1 (some .int) ({ frames := 0, cells := 0, slots := 0, locals := 0 } : Room) [.ref (lo + x0)] h (some (.int r)) h' := by
  intro l d
  refine AC_of (by decide) (Nat.le_of_ble_eq_true rfl) ?_
  intro G C _ _ q
  unfold f_X4_sort at e
  show AW G lo 0 0 0 [(0, .ref (lo + x0))] [] h
  refine a_iconst (v := (1 : Int32)) C dX4_sort_0 (by decide) ?_
  obtain ⟨rfl, rfl⟩ := sp2 e
  exact a_iret C q (Nat.le_of_ble_eq_true rfl) (Nat.le_of_ble_eq_true rfl) dX4_sort_1

set_option maxRecDepth 100000 in
def f_X5_sort (h : Hp) (x0 : Nat) : Option (Int32 × Hp) := some ((4 : Int32), h)

theorem m_X5_sort : MI yX5_sort cX5_sort 1 (some .int) 0 := ⟨co_X5_sort, ini_X5, by decide, by decide +kernel⟩
set_option maxRecDepth 100000 in
set_option maxHeartbeats 4000000 in
theorem k_X5_sort {lo : Nat} {h : Hp} {x0 : Nat} {r : Int32} {h' : Hp} (e : f_X5_sort h x0 = some (r, h')) : ∀ l d, AC l d lo yX5_sort cX5_sort 1 (some .int) ({ frames := 0, cells := 0, slots := 0, locals := 0 } : Room) [.ref (lo + x0)] h (some (.int r)) h' := by
  intro l d
  refine AC_of (by decide) (Nat.le_of_ble_eq_true rfl) ?_
  intro G C _ _ q
  unfold f_X5_sort at e
  show AW G lo 0 0 0 [(0, .ref (lo + x0))] [] h
  refine a_iconst (v := (4 : Int32)) C dX5_sort_0 (by decide) ?_
  obtain ⟨rfl, rfl⟩ := sp2 e
  exact a_iret C q (Nat.le_of_ble_eq_true rfl) (Nat.le_of_ble_eq_true rfl) dX5_sort_1

set_option maxRecDepth 100000 in
set_option maxHeartbeats 4000000 in
theorem kv_X5_sort {lo : Nat} {h : Hp} {x0 : Nat} {r : Int32} {h' : Hp} (e : f_X5_sort h x0 = some (r, h')) : ∀ l d, AC l d lo yX5_sort cX5_sort 1 (some .int) ({ frames := 0, cells := 0, slots := 0, locals := 0 } : Room) [.ref (lo + x0)] h (some (.int r)) h' := by
  intro l d
  refine AC_of (by decide) (Nat.le_of_ble_eq_true rfl) ?_
  intro G C _ _ q
  unfold f_X5_sort at e
  show AW G lo 0 0 0 [(0, .ref (lo + x0))] [] h
  refine a_iconst (v := (4 : Int32)) C dX5_sort_0 (by decide) ?_
  obtain ⟨rfl, rfl⟩ := sp2 e
  exact a_iret C q (Nat.le_of_ble_eq_true rfl) (Nat.le_of_ble_eq_true rfl) dX5_sort_1

set_option maxRecDepth 100000 in
def f_X9_sort (h : Hp) (x0 : Nat) : Option (Int32 × Hp) := some ((5 : Int32), h)

theorem m_X9_sort : MI yX9_sort cX9_sort 1 (some .int) 0 := ⟨co_X9_sort, ini_X9, by decide, by decide +kernel⟩
set_option maxRecDepth 100000 in
set_option maxHeartbeats 4000000 in
theorem k_X9_sort {lo : Nat} {h : Hp} {x0 : Nat} {r : Int32} {h' : Hp} (e : f_X9_sort h x0 = some (r, h')) : ∀ l d, AC l d lo yX9_sort cX9_sort 1 (some .int) ({ frames := 0, cells := 0, slots := 0, locals := 0 } : Room) [.ref (lo + x0)] h (some (.int r)) h' := by
  intro l d
  refine AC_of (by decide) (Nat.le_of_ble_eq_true rfl) ?_
  intro G C _ _ q
  unfold f_X9_sort at e
  show AW G lo 0 0 0 [(0, .ref (lo + x0))] [] h
  refine a_iconst (v := (5 : Int32)) C dX9_sort_0 (by decide) ?_
  obtain ⟨rfl, rfl⟩ := sp2 e
  exact a_iret C q (Nat.le_of_ble_eq_true rfl) (Nat.le_of_ble_eq_true rfl) dX9_sort_1

set_option maxRecDepth 100000 in
set_option maxHeartbeats 4000000 in
theorem kv_X9_sort {lo : Nat} {h : Hp} {x0 : Nat} {r : Int32} {h' : Hp} (e : f_X9_sort h x0 = some (r, h')) : ∀ l d, AC l d lo yX9_sort cX9_sort 1 (some .int) ({ frames := 0, cells := 0, slots := 0, locals := 0 } : Room) [.ref (lo + x0)] h (some (.int r)) h' := by
  intro l d
  refine AC_of (by decide) (Nat.le_of_ble_eq_true rfl) ?_
  intro G C _ _ q
  unfold f_X9_sort at e
  show AW G lo 0 0 0 [(0, .ref (lo + x0))] [] h
  refine a_iconst (v := (5 : Int32)) C dX9_sort_0 (by decide) ?_
  obtain ⟨rfl, rfl⟩ := sp2 e
  exact a_iret C q (Nat.le_of_ble_eq_true rfl) (Nat.le_of_ble_eq_true rfl) dX9_sort_1

set_option maxRecDepth 100000 in
def f_X0_loud (h : Hp) (x0 : Nat) (x1 : Int32) : Option (Int32 × Hp) := bA (gD h x0 3) fun g2 => some ((g2 / (2 : Int32)), h)

theorem m_X0_loud : MI yX0_loud cX0_loud 2 (some .int) 1 := ⟨co_X0_loud, ini_X0, by decide, by decide +kernel⟩
set_option maxRecDepth 100000 in
set_option maxHeartbeats 4000000 in
theorem k_X0_loud {lo : Nat} {h : Hp} {x0 : Nat} {x1 : Int32} {r : Int32} {h' : Hp} (e : f_X0_loud h x0 x1 = some (r, h')) : ∀ l d, AC l d lo yX0_loud cX0_loud 2 (some .int) ({ frames := 0, cells := 0, slots := 0, locals := 0 } : Room) [.ref (lo + x0), .int x1] h (some (.int r)) h' := by
  intro l d
  refine AC_of (by decide) (Nat.le_of_ble_eq_true rfl) ?_
  intro G C _ _ q
  unfold f_X0_loud at e
  show AW G lo 0 0 0 [(0, .ref (lo + x0)), (1, .int x1)] [] h
  refine a_aload_n C dX0_loud_0 rfl 0 rfl ?_
  obtain ⟨g2, e1, e⟩ := bA_some e
  refine a_getD C 3 (by decide) fl_X0_11 (Or.inr saf_X0_X2_n) dX0_loud_1 e1 ?_
  refine a_iconst (v := (2 : Int32)) C dX0_loud_4 (by decide) ?_
  refine a_idiv C dX0_loud_5 (by decide) ?_
  obtain ⟨rfl, rfl⟩ := sp2 e
  exact a_iret C q (Nat.le_of_ble_eq_true rfl) (Nat.le_of_ble_eq_true rfl) dX0_loud_6

set_option maxRecDepth 100000 in
set_option maxHeartbeats 4000000 in
theorem kv_X0_loud {lo : Nat} {h : Hp} {x0 : Nat} {x1 : Int32} {r : Int32} {h' : Hp} (e : f_X0_loud h x0 x1 = some (r, h')) : ∀ l d, AC l d lo yX0_loud cX0_loud 2 (some .int) ({ frames := 0, cells := 0, slots := 0, locals := 0 } : Room) [.ref (lo + x0), .int x1] h (some (.int r)) h' := by
  intro l d
  refine AC_of (by decide) (Nat.le_of_ble_eq_true rfl) ?_
  intro G C _ _ q
  unfold f_X0_loud at e
  show AW G lo 0 0 0 [(0, .ref (lo + x0)), (1, .int x1)] [] h
  refine a_aload_n C dX0_loud_0 rfl 0 rfl ?_
  obtain ⟨g2, e1, e⟩ := bA_some e
  refine a_getD C 3 (by decide) fl_X0_11 (Or.inr saf_X0_X2_n) dX0_loud_1 e1 ?_
  refine a_iconst (v := (2 : Int32)) C dX0_loud_4 (by decide) ?_
  refine a_idiv C dX0_loud_5 (by decide) ?_
  obtain ⟨rfl, rfl⟩ := sp2 e
  exact a_iret C q (Nat.le_of_ble_eq_true rfl) (Nat.le_of_ble_eq_true rfl) dX0_loud_6

set_option maxRecDepth 100000 in
def f_X1_loud (h : Hp) (x0 : Nat) (x1 : Int32) : Option (Int32 × Hp) := bA (gD h x0 3) fun g2 => some ((g2 + ((2 : Int32) * x1)), h)

theorem m_X1_loud : MI yX1_loud cX1_loud 2 (some .int) 1 := ⟨co_X1_loud, ini_X1, by decide, by decide +kernel⟩
set_option maxRecDepth 100000 in
set_option maxHeartbeats 4000000 in
theorem k_X1_loud {lo : Nat} {h : Hp} {x0 : Nat} {x1 : Int32} {r : Int32} {h' : Hp} (e : f_X1_loud h x0 x1 = some (r, h')) : ∀ l d, AC l d lo yX1_loud cX1_loud 2 (some .int) ({ frames := 0, cells := 0, slots := 0, locals := 0 } : Room) [.ref (lo + x0), .int x1] h (some (.int r)) h' := by
  intro l d
  refine AC_of (by decide) (Nat.le_of_ble_eq_true rfl) ?_
  intro G C _ _ q
  unfold f_X1_loud at e
  show AW G lo 0 0 0 [(0, .ref (lo + x0)), (1, .int x1)] [] h
  refine a_aload_n C dX1_loud_0 rfl 0 rfl ?_
  obtain ⟨g2, e1, e⟩ := bA_some e
  refine a_getD C 3 (by decide) fl_X1_11 (Or.inr saf_X1_X2_n) dX1_loud_1 e1 ?_
  refine a_iconst (v := (2 : Int32)) C dX1_loud_4 (by decide) ?_
  refine a_iload_n C dX1_loud_5 rfl 1 rfl ?_
  refine a_imul C dX1_loud_6 ?_
  refine a_iadd C dX1_loud_7 ?_
  obtain ⟨rfl, rfl⟩ := sp2 e
  exact a_iret C q (Nat.le_of_ble_eq_true rfl) (Nat.le_of_ble_eq_true rfl) dX1_loud_8

set_option maxRecDepth 100000 in
set_option maxHeartbeats 4000000 in
theorem kv_X1_loud {lo : Nat} {h : Hp} {x0 : Nat} {x1 : Int32} {r : Int32} {h' : Hp} (e : f_X1_loud h x0 x1 = some (r, h')) : ∀ l d, AC l d lo yX1_loud cX1_loud 2 (some .int) ({ frames := 0, cells := 0, slots := 0, locals := 0 } : Room) [.ref (lo + x0), .int x1] h (some (.int r)) h' := by
  intro l d
  refine AC_of (by decide) (Nat.le_of_ble_eq_true rfl) ?_
  intro G C _ _ q
  unfold f_X1_loud at e
  show AW G lo 0 0 0 [(0, .ref (lo + x0)), (1, .int x1)] [] h
  refine a_aload_n C dX1_loud_0 rfl 0 rfl ?_
  obtain ⟨g2, e1, e⟩ := bA_some e
  refine a_getD C 3 (by decide) fl_X1_11 (Or.inr saf_X1_X2_n) dX1_loud_1 e1 ?_
  refine a_iconst (v := (2 : Int32)) C dX1_loud_4 (by decide) ?_
  refine a_iload_n C dX1_loud_5 rfl 1 rfl ?_
  refine a_imul C dX1_loud_6 ?_
  refine a_iadd C dX1_loud_7 ?_
  obtain ⟨rfl, rfl⟩ := sp2 e
  exact a_iret C q (Nat.le_of_ble_eq_true rfl) (Nat.le_of_ble_eq_true rfl) dX1_loud_8

set_option maxRecDepth 100000 in
def f_X4_loud (h : Hp) (x0 : Nat) (x1 : Int32) : Option (Int32 × Hp) := bA (gD h x0 3) fun g2 => some (g2, h)

theorem m_X4_loud : MI yX4_loud cX4_loud 2 (some .int) 1 := ⟨co_X4_loud, ini_X4, by decide, by decide +kernel⟩
set_option maxRecDepth 100000 in
set_option maxHeartbeats 4000000 in
theorem k_X4_loud {lo : Nat} {h : Hp} {x0 : Nat} {x1 : Int32} {r : Int32} {h' : Hp} (e : f_X4_loud h x0 x1 = some (r, h')) : ∀ l d, AC l d lo yX4_loud cX4_loud 2 (some .int) ({ frames := 0, cells := 0, slots := 0, locals := 0 } : Room) [.ref (lo + x0), .int x1] h (some (.int r)) h' := by
  intro l d
  refine AC_of (by decide) (Nat.le_of_ble_eq_true rfl) ?_
  intro G C _ _ q
  unfold f_X4_loud at e
  show AW G lo 0 0 0 [(0, .ref (lo + x0)), (1, .int x1)] [] h
  refine a_aload_n C dX4_loud_0 rfl 0 rfl ?_
  obtain ⟨g2, e1, e⟩ := bA_some e
  refine a_getD C 3 (by decide) fl_X4_11 (Or.inr saf_X4_X2_n) dX4_loud_1 e1 ?_
  obtain ⟨rfl, rfl⟩ := sp2 e
  exact a_iret C q (Nat.le_of_ble_eq_true rfl) (Nat.le_of_ble_eq_true rfl) dX4_loud_4

set_option maxRecDepth 100000 in
set_option maxHeartbeats 4000000 in
theorem kv_X4_loud {lo : Nat} {h : Hp} {x0 : Nat} {x1 : Int32} {r : Int32} {h' : Hp} (e : f_X4_loud h x0 x1 = some (r, h')) : ∀ l d, AC l d lo yX4_loud cX4_loud 2 (some .int) ({ frames := 0, cells := 0, slots := 0, locals := 0 } : Room) [.ref (lo + x0), .int x1] h (some (.int r)) h' := by
  intro l d
  refine AC_of (by decide) (Nat.le_of_ble_eq_true rfl) ?_
  intro G C _ _ q
  unfold f_X4_loud at e
  show AW G lo 0 0 0 [(0, .ref (lo + x0)), (1, .int x1)] [] h
  refine a_aload_n C dX4_loud_0 rfl 0 rfl ?_
  obtain ⟨g2, e1, e⟩ := bA_some e
  refine a_getD C 3 (by decide) fl_X4_11 (Or.inr saf_X4_X2_n) dX4_loud_1 e1 ?_
  obtain ⟨rfl, rfl⟩ := sp2 e
  exact a_iret C q (Nat.le_of_ble_eq_true rfl) (Nat.le_of_ble_eq_true rfl) dX4_loud_4

set_option maxRecDepth 100000 in
def f_X5_loud (h : Hp) (x0 : Nat) (x1 : Int32) : Option (Int32 × Hp) := some ((1 : Int32), h)

theorem m_X5_loud : MI yX5_loud cX5_loud 2 (some .int) 1 := ⟨co_X5_loud, ini_X5, by decide, by decide +kernel⟩
set_option maxRecDepth 100000 in
set_option maxHeartbeats 4000000 in
theorem k_X5_loud {lo : Nat} {h : Hp} {x0 : Nat} {x1 : Int32} {r : Int32} {h' : Hp} (e : f_X5_loud h x0 x1 = some (r, h')) : ∀ l d, AC l d lo yX5_loud cX5_loud 2 (some .int) ({ frames := 0, cells := 0, slots := 0, locals := 0 } : Room) [.ref (lo + x0), .int x1] h (some (.int r)) h' := by
  intro l d
  refine AC_of (by decide) (Nat.le_of_ble_eq_true rfl) ?_
  intro G C _ _ q
  unfold f_X5_loud at e
  show AW G lo 0 0 0 [(0, .ref (lo + x0)), (1, .int x1)] [] h
  refine a_iconst (v := (1 : Int32)) C dX5_loud_0 (by decide) ?_
  obtain ⟨rfl, rfl⟩ := sp2 e
  exact a_iret C q (Nat.le_of_ble_eq_true rfl) (Nat.le_of_ble_eq_true rfl) dX5_loud_1

set_option maxRecDepth 100000 in
set_option maxHeartbeats 4000000 in
theorem kv_X5_loud {lo : Nat} {h : Hp} {x0 : Nat} {x1 : Int32} {r : Int32} {h' : Hp} (e : f_X5_loud h x0 x1 = some (r, h')) : ∀ l d, AC l d lo yX5_loud cX5_loud 2 (some .int) ({ frames := 0, cells := 0, slots := 0, locals := 0 } : Room) [.ref (lo + x0), .int x1] h (some (.int r)) h' := by
  intro l d
  refine AC_of (by decide) (Nat.le_of_ble_eq_true rfl) ?_
  intro G C _ _ q
  unfold f_X5_loud at e
  show AW G lo 0 0 0 [(0, .ref (lo + x0)), (1, .int x1)] [] h
  refine a_iconst (v := (1 : Int32)) C dX5_loud_0 (by decide) ?_
  obtain ⟨rfl, rfl⟩ := sp2 e
  exact a_iret C q (Nat.le_of_ble_eq_true rfl) (Nat.le_of_ble_eq_true rfl) dX5_loud_1

set_option maxRecDepth 100000 in
def f_X2_gap (h : Hp) (x0 : Nat) : Option (Int32 × Hp) := some ((1 : Int32), h)

theorem m_X2_gap : MI yX2_gap cX2_gap 1 (some .int) 0 := ⟨co_X2_gap, ini_X2, by decide, by decide +kernel⟩
set_option maxRecDepth 100000 in
set_option maxHeartbeats 4000000 in
theorem k_X2_gap {lo : Nat} {h : Hp} {x0 : Nat} {r : Int32} {h' : Hp} (e : f_X2_gap h x0 = some (r, h')) : ∀ l d, AC l d lo yX2_gap cX2_gap 1 (some .int) ({ frames := 0, cells := 0, slots := 0, locals := 0 } : Room) [.ref (lo + x0)] h (some (.int r)) h' := by
  intro l d
  refine AC_of (by decide) (Nat.le_of_ble_eq_true rfl) ?_
  intro G C _ _ q
  unfold f_X2_gap at e
  show AW G lo 0 0 0 [(0, .ref (lo + x0))] [] h
  refine a_iconst (v := (1 : Int32)) C dX2_gap_0 (by decide) ?_
  obtain ⟨rfl, rfl⟩ := sp2 e
  exact a_iret C q (Nat.le_of_ble_eq_true rfl) (Nat.le_of_ble_eq_true rfl) dX2_gap_1

set_option maxRecDepth 100000 in
set_option maxHeartbeats 4000000 in
theorem kv_X2_gap {lo : Nat} {h : Hp} {x0 : Nat} {r : Int32} {h' : Hp} (e : f_X2_gap h x0 = some (r, h')) : ∀ l d, AC l d lo yX2_gap cX2_gap 1 (some .int) ({ frames := 0, cells := 0, slots := 0, locals := 0 } : Room) [.ref (lo + x0)] h (some (.int r)) h' := by
  intro l d
  refine AC_of (by decide) (Nat.le_of_ble_eq_true rfl) ?_
  intro G C _ _ q
  unfold f_X2_gap at e
  show AW G lo 0 0 0 [(0, .ref (lo + x0))] [] h
  refine a_iconst (v := (1 : Int32)) C dX2_gap_0 (by decide) ?_
  obtain ⟨rfl, rfl⟩ := sp2 e
  exact a_iret C q (Nat.le_of_ble_eq_true rfl) (Nat.le_of_ble_eq_true rfl) dX2_gap_1

set_option maxRecDepth 100000 in
def f_X0_gap (h : Hp) (x0 : Nat) : Option (Int32 × Hp) := some ((2 : Int32), h)

theorem m_X0_gap : MI yX0_gap cX0_gap 1 (some .int) 0 := ⟨co_X0_gap, ini_X0, by decide, by decide +kernel⟩
set_option maxRecDepth 100000 in
set_option maxHeartbeats 4000000 in
theorem k_X0_gap {lo : Nat} {h : Hp} {x0 : Nat} {r : Int32} {h' : Hp} (e : f_X0_gap h x0 = some (r, h')) : ∀ l d, AC l d lo yX0_gap cX0_gap 1 (some .int) ({ frames := 0, cells := 0, slots := 0, locals := 0 } : Room) [.ref (lo + x0)] h (some (.int r)) h' := by
  intro l d
  refine AC_of (by decide) (Nat.le_of_ble_eq_true rfl) ?_
  intro G C _ _ q
  unfold f_X0_gap at e
  show AW G lo 0 0 0 [(0, .ref (lo + x0))] [] h
  refine a_iconst (v := (2 : Int32)) C dX0_gap_0 (by decide) ?_
  obtain ⟨rfl, rfl⟩ := sp2 e
  exact a_iret C q (Nat.le_of_ble_eq_true rfl) (Nat.le_of_ble_eq_true rfl) dX0_gap_1

set_option maxRecDepth 100000 in
set_option maxHeartbeats 4000000 in
theorem kv_X0_gap {lo : Nat} {h : Hp} {x0 : Nat} {r : Int32} {h' : Hp} (e : f_X0_gap h x0 = some (r, h')) : ∀ l d, AC l d lo yX0_gap cX0_gap 1 (some .int) ({ frames := 0, cells := 0, slots := 0, locals := 0 } : Room) [.ref (lo + x0)] h (some (.int r)) h' := by
  intro l d
  refine AC_of (by decide) (Nat.le_of_ble_eq_true rfl) ?_
  intro G C _ _ q
  unfold f_X0_gap at e
  show AW G lo 0 0 0 [(0, .ref (lo + x0))] [] h
  refine a_iconst (v := (2 : Int32)) C dX0_gap_0 (by decide) ?_
  obtain ⟨rfl, rfl⟩ := sp2 e
  exact a_iret C q (Nat.le_of_ble_eq_true rfl) (Nat.le_of_ble_eq_true rfl) dX0_gap_1

set_option maxRecDepth 100000 in
def f_X9_gap (h : Hp) (x0 : Nat) : Option (Int32 × Hp) := some ((0 : Int32), h)

theorem m_X9_gap : MI yX9_gap cX9_gap 1 (some .int) 0 := ⟨co_X9_gap, ini_X9, by decide, by decide +kernel⟩
set_option maxRecDepth 100000 in
set_option maxHeartbeats 4000000 in
theorem k_X9_gap {lo : Nat} {h : Hp} {x0 : Nat} {r : Int32} {h' : Hp} (e : f_X9_gap h x0 = some (r, h')) : ∀ l d, AC l d lo yX9_gap cX9_gap 1 (some .int) ({ frames := 0, cells := 0, slots := 0, locals := 0 } : Room) [.ref (lo + x0)] h (some (.int r)) h' := by
  intro l d
  refine AC_of (by decide) (Nat.le_of_ble_eq_true rfl) ?_
  intro G C _ _ q
  unfold f_X9_gap at e
  show AW G lo 0 0 0 [(0, .ref (lo + x0))] [] h
  refine a_iconst (v := (0 : Int32)) C dX9_gap_0 (by decide) ?_
  obtain ⟨rfl, rfl⟩ := sp2 e
  exact a_iret C q (Nat.le_of_ble_eq_true rfl) (Nat.le_of_ble_eq_true rfl) dX9_gap_1

set_option maxRecDepth 100000 in
set_option maxHeartbeats 4000000 in
theorem kv_X9_gap {lo : Nat} {h : Hp} {x0 : Nat} {r : Int32} {h' : Hp} (e : f_X9_gap h x0 = some (r, h')) : ∀ l d, AC l d lo yX9_gap cX9_gap 1 (some .int) ({ frames := 0, cells := 0, slots := 0, locals := 0 } : Room) [.ref (lo + x0)] h (some (.int r)) h' := by
  intro l d
  refine AC_of (by decide) (Nat.le_of_ble_eq_true rfl) ?_
  intro G C _ _ q
  unfold f_X9_gap at e
  show AW G lo 0 0 0 [(0, .ref (lo + x0))] [] h
  refine a_iconst (v := (0 : Int32)) C dX9_gap_0 (by decide) ?_
  obtain ⟨rfl, rfl⟩ := sp2 e
  exact a_iret C q (Nat.le_of_ble_eq_true rfl) (Nat.le_of_ble_eq_true rfl) dX9_gap_1

set_option maxRecDepth 100000 in
def f_X2_keyBit (h : Hp) (x0 : Nat) : Option (Int32 × Hp) := some ((0 : Int32), h)

theorem m_X2_keyBit : MI yX2_keyBit cX2_keyBit 1 (some .int) 0 := ⟨co_X2_keyBit, ini_X2, by decide, by decide +kernel⟩
set_option maxRecDepth 100000 in
set_option maxHeartbeats 4000000 in
theorem k_X2_keyBit {lo : Nat} {h : Hp} {x0 : Nat} {r : Int32} {h' : Hp} (e : f_X2_keyBit h x0 = some (r, h')) : ∀ l d, AC l d lo yX2_keyBit cX2_keyBit 1 (some .int) ({ frames := 0, cells := 0, slots := 0, locals := 0 } : Room) [.ref (lo + x0)] h (some (.int r)) h' := by
  intro l d
  refine AC_of (by decide) (Nat.le_of_ble_eq_true rfl) ?_
  intro G C _ _ q
  unfold f_X2_keyBit at e
  show AW G lo 0 0 0 [(0, .ref (lo + x0))] [] h
  refine a_iconst (v := (0 : Int32)) C dX2_keyBit_0 (by decide) ?_
  obtain ⟨rfl, rfl⟩ := sp2 e
  exact a_iret C q (Nat.le_of_ble_eq_true rfl) (Nat.le_of_ble_eq_true rfl) dX2_keyBit_1

set_option maxRecDepth 100000 in
set_option maxHeartbeats 4000000 in
theorem kv_X2_keyBit {lo : Nat} {h : Hp} {x0 : Nat} {r : Int32} {h' : Hp} (e : f_X2_keyBit h x0 = some (r, h')) : ∀ l d, AC l d lo yX2_keyBit cX2_keyBit 1 (some .int) ({ frames := 0, cells := 0, slots := 0, locals := 0 } : Room) [.ref (lo + x0)] h (some (.int r)) h' := by
  intro l d
  refine AC_of (by decide) (Nat.le_of_ble_eq_true rfl) ?_
  intro G C _ _ q
  unfold f_X2_keyBit at e
  show AW G lo 0 0 0 [(0, .ref (lo + x0))] [] h
  refine a_iconst (v := (0 : Int32)) C dX2_keyBit_0 (by decide) ?_
  obtain ⟨rfl, rfl⟩ := sp2 e
  exact a_iret C q (Nat.le_of_ble_eq_true rfl) (Nat.le_of_ble_eq_true rfl) dX2_keyBit_1

set_option maxRecDepth 100000 in
def f_X5_keyBit (h : Hp) (x0 : Nat) : Option (Int32 × Hp) := bA (gD h x0 3) fun g2 => some (((1 : Int32) <<< ((g2 - g2 / (6 : Int32) * (6 : Int32)) &&& 31)), h)

theorem m_X5_keyBit : MI yX5_keyBit cX5_keyBit 1 (some .int) 0 := ⟨co_X5_keyBit, ini_X5, by decide, by decide +kernel⟩
set_option maxRecDepth 100000 in
set_option maxHeartbeats 4000000 in
theorem k_X5_keyBit {lo : Nat} {h : Hp} {x0 : Nat} {r : Int32} {h' : Hp} (e : f_X5_keyBit h x0 = some (r, h')) : ∀ l d, AC l d lo yX5_keyBit cX5_keyBit 1 (some .int) ({ frames := 0, cells := 0, slots := 0, locals := 0 } : Room) [.ref (lo + x0)] h (some (.int r)) h' := by
  intro l d
  refine AC_of (by decide) (Nat.le_of_ble_eq_true rfl) ?_
  intro G C _ _ q
  unfold f_X5_keyBit at e
  show AW G lo 0 0 0 [(0, .ref (lo + x0))] [] h
  refine a_iconst (v := (1 : Int32)) C dX5_keyBit_0 (by decide) ?_
  refine a_aload_n C dX5_keyBit_1 rfl 0 rfl ?_
  obtain ⟨g2, e1, e⟩ := bA_some e
  refine a_getD C 3 (by decide) fl_X5_11 (Or.inr saf_X5_X2_n) dX5_keyBit_2 e1 ?_
  refine a_bipush (v := (6 : Int32)) C dX5_keyBit_5 (by decide) ?_
  refine a_irem C dX5_keyBit_7 (by decide) ?_
  refine a_ishl C dX5_keyBit_8 ?_
  obtain ⟨rfl, rfl⟩ := sp2 e
  exact a_iret C q (Nat.le_of_ble_eq_true rfl) (Nat.le_of_ble_eq_true rfl) dX5_keyBit_9

set_option maxRecDepth 100000 in
set_option maxHeartbeats 4000000 in
theorem kv_X5_keyBit {lo : Nat} {h : Hp} {x0 : Nat} {r : Int32} {h' : Hp} (e : f_X5_keyBit h x0 = some (r, h')) : ∀ l d, AC l d lo yX5_keyBit cX5_keyBit 1 (some .int) ({ frames := 0, cells := 0, slots := 0, locals := 0 } : Room) [.ref (lo + x0)] h (some (.int r)) h' := by
  intro l d
  refine AC_of (by decide) (Nat.le_of_ble_eq_true rfl) ?_
  intro G C _ _ q
  unfold f_X5_keyBit at e
  show AW G lo 0 0 0 [(0, .ref (lo + x0))] [] h
  refine a_iconst (v := (1 : Int32)) C dX5_keyBit_0 (by decide) ?_
  refine a_aload_n C dX5_keyBit_1 rfl 0 rfl ?_
  obtain ⟨g2, e1, e⟩ := bA_some e
  refine a_getD C 3 (by decide) fl_X5_11 (Or.inr saf_X5_X2_n) dX5_keyBit_2 e1 ?_
  refine a_bipush (v := (6 : Int32)) C dX5_keyBit_5 (by decide) ?_
  refine a_irem C dX5_keyBit_7 (by decide) ?_
  refine a_ishl C dX5_keyBit_8 ?_
  obtain ⟨rfl, rfl⟩ := sp2 e
  exact a_iret C q (Nat.le_of_ble_eq_true rfl) (Nat.le_of_ble_eq_true rfl) dX5_keyBit_9

set_option maxRecDepth 100000 in
def f_X2_isBroken (h : Hp) (x0 : Nat) (x1 : Int32) : Option (Int32 × Hp) := some ((0 : Int32), h)

theorem m_X2_isBroken : MI yX2_isBroken cX2_isBroken 2 (some .boolean) 1 := ⟨co_X2_isBroken, ini_X2, by decide, by decide +kernel⟩
set_option maxRecDepth 100000 in
set_option maxHeartbeats 4000000 in
theorem k_X2_isBroken {lo : Nat} {h : Hp} {x0 : Nat} {x1 : Int32} {r : Int32} {h' : Hp} (e : f_X2_isBroken h x0 x1 = some (r, h')) : ∀ l d, AC l d lo yX2_isBroken cX2_isBroken 2 (some .boolean) ({ frames := 0, cells := 0, slots := 0, locals := 0 } : Room) [.ref (lo + x0), .int x1] h (some (.int r)) h' := by
  intro l d
  refine AC_of (by decide) (Nat.le_of_ble_eq_true rfl) ?_
  intro G C _ _ q
  unfold f_X2_isBroken at e
  show AW G lo 0 0 0 [(0, .ref (lo + x0)), (1, .int x1)] [] h
  refine a_iconst (v := (0 : Int32)) C dX2_isBroken_0 (by decide) ?_
  obtain ⟨rfl, rfl⟩ := sp2 e
  exact a_zret C q (by decide) (Nat.le_of_ble_eq_true rfl) (Nat.le_of_ble_eq_true rfl) dX2_isBroken_1

set_option maxRecDepth 100000 in
set_option maxHeartbeats 4000000 in
theorem kv_X2_isBroken {lo : Nat} {h : Hp} {x0 : Nat} {x1 : Int32} {r : Int32} {h' : Hp} (e : f_X2_isBroken h x0 x1 = some (r, h')) : ∀ l d, AC l d lo yX2_isBroken cX2_isBroken 2 (some .boolean) ({ frames := 0, cells := 0, slots := 0, locals := 0 } : Room) [.ref (lo + x0), .int x1] h (some (.int r)) h' := by
  intro l d
  refine AC_of (by decide) (Nat.le_of_ble_eq_true rfl) ?_
  intro G C _ _ q
  unfold f_X2_isBroken at e
  show AW G lo 0 0 0 [(0, .ref (lo + x0)), (1, .int x1)] [] h
  refine a_iconst (v := (0 : Int32)) C dX2_isBroken_0 (by decide) ?_
  obtain ⟨rfl, rfl⟩ := sp2 e
  exact a_zret C q (by decide) (Nat.le_of_ble_eq_true rfl) (Nat.le_of_ble_eq_true rfl) dX2_isBroken_1

set_option maxRecDepth 100000 in
def f_X9_isBroken (h : Hp) (x0 : Nat) (x1 : Int32) : Option (Int32 × Hp) := bA (if x1 = 0 then some (0 : Int32) else some (1 : Int32)) fun j2 => bA (bz j2) fun z5 => some (j2, h)

theorem m_X9_isBroken : MI yX9_isBroken cX9_isBroken 2 (some .boolean) 1 := ⟨co_X9_isBroken, ini_X9, by decide, by decide +kernel⟩
set_option maxRecDepth 100000 in
set_option maxHeartbeats 4000000 in
theorem k_X9_isBroken {lo : Nat} {h : Hp} {x0 : Nat} {x1 : Int32} {r : Int32} {h' : Hp} (e : f_X9_isBroken h x0 x1 = some (r, h')) : ∀ l d, AC l d lo yX9_isBroken cX9_isBroken 2 (some .boolean) ({ frames := 0, cells := 0, slots := 0, locals := 0 } : Room) [.ref (lo + x0), .int x1] h (some (.int r)) h' := by
  intro l d
  refine AC_of (by decide) (Nat.le_of_ble_eq_true rfl) ?_
  intro G C _ _ q
  unfold f_X9_isBroken at e
  show AW G lo 0 0 0 [(0, .ref (lo + x0)), (1, .int x1)] [] h
  refine a_iload_n C dX9_isBroken_0 rfl 1 rfl ?_
  obtain ⟨j2, eb4, e⟩ := bA_some e
  have jj3 : AW G lo 0 0 9 [(0, .ref (lo + x0)), (1, .int x1)] [.int j2] h := by
    obtain ⟨z5, e6, e⟩ := bA_some e
    obtain ⟨rfl, rfl⟩ := sp2 e
    exact a_zret C q (bz_some e6) (Nat.le_of_ble_eq_true rfl) (Nat.le_of_ble_eq_true rfl) dX9_isBroken_9
  have e := eb4
  refine a_if_eq (tgt := 8) C dX9_isBroken_1 (by decide) (fun c1 => ?_) (fun c1 => ?_)
  · have e := ip c1 e
    refine a_iconst (v := (0 : Int32)) C dX9_isBroken_8 (by decide) ?_
    obtain rfl := sp1 e
    exact a_widen (Nat.le_of_ble_eq_true rfl) (Nat.le_of_ble_eq_true rfl) (a_sub [0, 1] rfl jj3)
  · have e := iN c1 e
    refine a_iconst (v := (1 : Int32)) C dX9_isBroken_4 (by decide) ?_
    refine a_goto (tgt := 9) C dX9_isBroken_5 (by decide) ?_
    obtain rfl := sp1 e
    exact a_widen (Nat.le_of_ble_eq_true rfl) (Nat.le_of_ble_eq_true rfl) (a_sub [0, 1] rfl jj3)

set_option maxRecDepth 100000 in
set_option maxHeartbeats 4000000 in
theorem kv_X9_isBroken {lo : Nat} {h : Hp} {x0 : Nat} {x1 : Int32} {r : Int32} {h' : Hp} (e : f_X9_isBroken h x0 x1 = some (r, h')) : ∀ l d, AC l d lo yX9_isBroken cX9_isBroken 2 (some .boolean) ({ frames := 0, cells := 0, slots := 0, locals := 0 } : Room) [.ref (lo + x0), .int x1] h (some (.int r)) h' := by
  intro l d
  refine AC_of (by decide) (Nat.le_of_ble_eq_true rfl) ?_
  intro G C _ _ q
  unfold f_X9_isBroken at e
  show AW G lo 0 0 0 [(0, .ref (lo + x0)), (1, .int x1)] [] h
  refine a_iload_n C dX9_isBroken_0 rfl 1 rfl ?_
  obtain ⟨j2, eb4, e⟩ := bA_some e
  have jj3 : AW G lo 0 0 9 [(0, .ref (lo + x0)), (1, .int x1)] [.int j2] h := by
    obtain ⟨z5, e6, e⟩ := bA_some e
    obtain ⟨rfl, rfl⟩ := sp2 e
    exact a_zret C q (bz_some e6) (Nat.le_of_ble_eq_true rfl) (Nat.le_of_ble_eq_true rfl) dX9_isBroken_9
  have e := eb4
  refine a_if_eq (tgt := 8) C dX9_isBroken_1 (by decide) (fun c1 => ?_) (fun c1 => ?_)
  · have e := ip c1 e
    refine a_iconst (v := (0 : Int32)) C dX9_isBroken_8 (by decide) ?_
    obtain rfl := sp1 e
    exact a_widen (Nat.le_of_ble_eq_true rfl) (Nat.le_of_ble_eq_true rfl) (a_sub [0, 1] rfl jj3)
  · have e := iN c1 e
    refine a_iconst (v := (1 : Int32)) C dX9_isBroken_4 (by decide) ?_
    refine a_goto (tgt := 9) C dX9_isBroken_5 (by decide) ?_
    obtain rfl := sp1 e
    exact a_widen (Nat.le_of_ble_eq_true rfl) (Nat.le_of_ble_eq_true rfl) (a_sub [0, 1] rfl jj3)

set_option maxRecDepth 100000 in
def f_X2_leadsFrom (h : Hp) (x0 : Nat) (x1 : Int32) : Option (Int32 × Hp) := bA (gD h x0 1) fun g2 => bA (if x1 = g2 then some (1 : Int32) else bA (gD h x0 2) fun g8 => (if x1 = g8 then some (1 : Int32) else some (0 : Int32))) fun j4 => bA (bz j4) fun z10 => some (j4, h)

theorem m_X2_leadsFrom : MI yX2_leadsFrom cX2_leadsFrom 2 (some .boolean) 1 := ⟨co_X2_leadsFrom, ini_X2, by decide, by decide +kernel⟩
set_option maxRecDepth 100000 in
set_option maxHeartbeats 4000000 in
theorem k_X2_leadsFrom {lo : Nat} {h : Hp} {x0 : Nat} {x1 : Int32} {r : Int32} {h' : Hp} (e : f_X2_leadsFrom h x0 x1 = some (r, h')) : ∀ l d, AC l d lo yX2_leadsFrom cX2_leadsFrom 2 (some .boolean) ({ frames := 0, cells := 0, slots := 0, locals := 0 } : Room) [.ref (lo + x0), .int x1] h (some (.int r)) h' := by
  intro l d
  refine AC_of (by decide) (Nat.le_of_ble_eq_true rfl) ?_
  intro G C _ _ q
  unfold f_X2_leadsFrom at e
  show AW G lo 0 0 0 [(0, .ref (lo + x0)), (1, .int x1)] [] h
  refine a_iload_n C dX2_leadsFrom_0 rfl 1 rfl ?_
  refine a_aload_n C dX2_leadsFrom_1 rfl 0 rfl ?_
  obtain ⟨g2, e1, e⟩ := bA_some e
  refine a_getD C 1 (by decide) fl_X2_13 (Or.inl rfl) dX2_leadsFrom_2 e1 ?_
  obtain ⟨j4, eb6, e⟩ := bA_some e
  have jj5 : AW G lo 0 0 21 [(0, .ref (lo + x0)), (1, .int x1)] [.int j4] h := by
    obtain ⟨z10, e11, e⟩ := bA_some e
    obtain ⟨rfl, rfl⟩ := sp2 e
    exact a_zret C q (bz_some e11) (Nat.le_of_ble_eq_true rfl) (Nat.le_of_ble_eq_true rfl) dX2_leadsFrom_21
  have e := eb6
  refine a_icmp_eq (tgt := 16) C dX2_leadsFrom_5 (by decide) (fun c3 => ?_) (fun c3 => ?_)
  · have e := ip c3 e
    refine a_iconst (v := (1 : Int32)) C dX2_leadsFrom_16 (by decide) ?_
    refine a_goto (tgt := 21) C dX2_leadsFrom_17 (by decide) ?_
    obtain rfl := sp1 e
    exact a_widen (Nat.le_of_ble_eq_true rfl) (Nat.le_of_ble_eq_true rfl) (a_sub [0, 1] rfl jj5)
  · have e := iN c3 e
    refine a_iload_n C dX2_leadsFrom_8 rfl 1 rfl ?_
    refine a_aload_n C dX2_leadsFrom_9 rfl 0 rfl ?_
    obtain ⟨g8, e7, e⟩ := bA_some e
    refine a_getD C 2 (by decide) fl_X2_16 (Or.inl rfl) dX2_leadsFrom_10 e7 ?_
    refine a_icmp_ne (tgt := 20) C dX2_leadsFrom_13 (by decide) (fun c9 => ?_) (fun c9 => ?_)
    · have e := iN c9 e
      refine a_iconst (v := (0 : Int32)) C dX2_leadsFrom_20 (by decide) ?_
      obtain rfl := sp1 e
      exact a_widen (Nat.le_of_ble_eq_true rfl) (Nat.le_of_ble_eq_true rfl) (a_sub [0, 1] rfl jj5)
    · have e := ip c9 e
      refine a_iconst (v := (1 : Int32)) C dX2_leadsFrom_16 (by decide) ?_
      refine a_goto (tgt := 21) C dX2_leadsFrom_17 (by decide) ?_
      obtain rfl := sp1 e
      exact a_widen (Nat.le_of_ble_eq_true rfl) (Nat.le_of_ble_eq_true rfl) (a_sub [0, 1] rfl jj5)

set_option maxRecDepth 100000 in
set_option maxHeartbeats 4000000 in
theorem kv_X2_leadsFrom {lo : Nat} {h : Hp} {x0 : Nat} {x1 : Int32} {r : Int32} {h' : Hp} (e : f_X2_leadsFrom h x0 x1 = some (r, h')) : ∀ l d, AC l d lo yX2_leadsFrom cX2_leadsFrom 2 (some .boolean) ({ frames := 0, cells := 0, slots := 0, locals := 0 } : Room) [.ref (lo + x0), .int x1] h (some (.int r)) h' := by
  intro l d
  refine AC_of (by decide) (Nat.le_of_ble_eq_true rfl) ?_
  intro G C _ _ q
  unfold f_X2_leadsFrom at e
  show AW G lo 0 0 0 [(0, .ref (lo + x0)), (1, .int x1)] [] h
  refine a_iload_n C dX2_leadsFrom_0 rfl 1 rfl ?_
  refine a_aload_n C dX2_leadsFrom_1 rfl 0 rfl ?_
  obtain ⟨g2, e1, e⟩ := bA_some e
  refine a_getD C 1 (by decide) fl_X2_13 (Or.inl rfl) dX2_leadsFrom_2 e1 ?_
  obtain ⟨j4, eb6, e⟩ := bA_some e
  have jj5 : AW G lo 0 0 21 [(0, .ref (lo + x0)), (1, .int x1)] [.int j4] h := by
    obtain ⟨z10, e11, e⟩ := bA_some e
    obtain ⟨rfl, rfl⟩ := sp2 e
    exact a_zret C q (bz_some e11) (Nat.le_of_ble_eq_true rfl) (Nat.le_of_ble_eq_true rfl) dX2_leadsFrom_21
  have e := eb6
  refine a_icmp_eq (tgt := 16) C dX2_leadsFrom_5 (by decide) (fun c3 => ?_) (fun c3 => ?_)
  · have e := ip c3 e
    refine a_iconst (v := (1 : Int32)) C dX2_leadsFrom_16 (by decide) ?_
    refine a_goto (tgt := 21) C dX2_leadsFrom_17 (by decide) ?_
    obtain rfl := sp1 e
    exact a_widen (Nat.le_of_ble_eq_true rfl) (Nat.le_of_ble_eq_true rfl) (a_sub [0, 1] rfl jj5)
  · have e := iN c3 e
    refine a_iload_n C dX2_leadsFrom_8 rfl 1 rfl ?_
    refine a_aload_n C dX2_leadsFrom_9 rfl 0 rfl ?_
    obtain ⟨g8, e7, e⟩ := bA_some e
    refine a_getD C 2 (by decide) fl_X2_16 (Or.inl rfl) dX2_leadsFrom_10 e7 ?_
    refine a_icmp_ne (tgt := 20) C dX2_leadsFrom_13 (by decide) (fun c9 => ?_) (fun c9 => ?_)
    · have e := iN c9 e
      refine a_iconst (v := (0 : Int32)) C dX2_leadsFrom_20 (by decide) ?_
      obtain rfl := sp1 e
      exact a_widen (Nat.le_of_ble_eq_true rfl) (Nat.le_of_ble_eq_true rfl) (a_sub [0, 1] rfl jj5)
    · have e := ip c9 e
      refine a_iconst (v := (1 : Int32)) C dX2_leadsFrom_16 (by decide) ?_
      refine a_goto (tgt := 21) C dX2_leadsFrom_17 (by decide) ?_
      obtain rfl := sp1 e
      exact a_widen (Nat.le_of_ble_eq_true rfl) (Nat.le_of_ble_eq_true rfl) (a_sub [0, 1] rfl jj5)

set_option maxRecDepth 100000 in
def f_X2_beyond (h : Hp) (x0 : Nat) (x1 : Int32) : Option (Int32 × Hp) := bA (gD h x0 1) fun g2 => bA (if x1 = g2 then bA (gD h x0 2) fun g10 => some g10 else bA (gD h x0 1) fun g8 => some g8) fun j4 => some (j4, h)

theorem m_X2_beyond : MI yX2_beyond cX2_beyond 2 (some .int) 1 := ⟨co_X2_beyond, ini_X2, by decide, by decide +kernel⟩
set_option maxRecDepth 100000 in
set_option maxHeartbeats 4000000 in
theorem k_X2_beyond {lo : Nat} {h : Hp} {x0 : Nat} {x1 : Int32} {r : Int32} {h' : Hp} (e : f_X2_beyond h x0 x1 = some (r, h')) : ∀ l d, AC l d lo yX2_beyond cX2_beyond 2 (some .int) ({ frames := 0, cells := 0, slots := 0, locals := 0 } : Room) [.ref (lo + x0), .int x1] h (some (.int r)) h' := by
  intro l d
  refine AC_of (by decide) (Nat.le_of_ble_eq_true rfl) ?_
  intro G C _ _ q
  unfold f_X2_beyond at e
  show AW G lo 0 0 0 [(0, .ref (lo + x0)), (1, .int x1)] [] h
  refine a_iload_n C dX2_beyond_0 rfl 1 rfl ?_
  refine a_aload_n C dX2_beyond_1 rfl 0 rfl ?_
  obtain ⟨g2, e1, e⟩ := bA_some e
  refine a_getD C 1 (by decide) fl_X2_13 (Or.inl rfl) dX2_beyond_2 e1 ?_
  obtain ⟨j4, eb6, e⟩ := bA_some e
  have jj5 : AW G lo 0 0 19 [(0, .ref (lo + x0)), (1, .int x1)] [.int j4] h := by
    obtain ⟨rfl, rfl⟩ := sp2 e
    exact a_iret C q (Nat.le_of_ble_eq_true rfl) (Nat.le_of_ble_eq_true rfl) dX2_beyond_19
  have e := eb6
  refine a_icmp_ne (tgt := 15) C dX2_beyond_5 (by decide) (fun c3 => ?_) (fun c3 => ?_)
  · have e := iN c3 e
    refine a_aload_n C dX2_beyond_15 rfl 0 rfl ?_
    obtain ⟨g8, e7, e⟩ := bA_some e
    refine a_getD C 1 (by decide) fl_X2_13 (Or.inl rfl) dX2_beyond_16 e7 ?_
    obtain rfl := sp1 e
    exact a_widen (Nat.le_of_ble_eq_true rfl) (Nat.le_of_ble_eq_true rfl) (a_sub [0, 1] rfl jj5)
  · have e := ip c3 e
    refine a_aload_n C dX2_beyond_8 rfl 0 rfl ?_
    obtain ⟨g10, e9, e⟩ := bA_some e
    refine a_getD C 2 (by decide) fl_X2_16 (Or.inl rfl) dX2_beyond_9 e9 ?_
    refine a_goto (tgt := 19) C dX2_beyond_12 (by decide) ?_
    obtain rfl := sp1 e
    exact a_widen (Nat.le_of_ble_eq_true rfl) (Nat.le_of_ble_eq_true rfl) (a_sub [0, 1] rfl jj5)

set_option maxRecDepth 100000 in
set_option maxHeartbeats 4000000 in
theorem kv_X2_beyond {lo : Nat} {h : Hp} {x0 : Nat} {x1 : Int32} {r : Int32} {h' : Hp} (e : f_X2_beyond h x0 x1 = some (r, h')) : ∀ l d, AC l d lo yX2_beyond cX2_beyond 2 (some .int) ({ frames := 0, cells := 0, slots := 0, locals := 0 } : Room) [.ref (lo + x0), .int x1] h (some (.int r)) h' := by
  intro l d
  refine AC_of (by decide) (Nat.le_of_ble_eq_true rfl) ?_
  intro G C _ _ q
  unfold f_X2_beyond at e
  show AW G lo 0 0 0 [(0, .ref (lo + x0)), (1, .int x1)] [] h
  refine a_iload_n C dX2_beyond_0 rfl 1 rfl ?_
  refine a_aload_n C dX2_beyond_1 rfl 0 rfl ?_
  obtain ⟨g2, e1, e⟩ := bA_some e
  refine a_getD C 1 (by decide) fl_X2_13 (Or.inl rfl) dX2_beyond_2 e1 ?_
  obtain ⟨j4, eb6, e⟩ := bA_some e
  have jj5 : AW G lo 0 0 19 [(0, .ref (lo + x0)), (1, .int x1)] [.int j4] h := by
    obtain ⟨rfl, rfl⟩ := sp2 e
    exact a_iret C q (Nat.le_of_ble_eq_true rfl) (Nat.le_of_ble_eq_true rfl) dX2_beyond_19
  have e := eb6
  refine a_icmp_ne (tgt := 15) C dX2_beyond_5 (by decide) (fun c3 => ?_) (fun c3 => ?_)
  · have e := iN c3 e
    refine a_aload_n C dX2_beyond_15 rfl 0 rfl ?_
    obtain ⟨g8, e7, e⟩ := bA_some e
    refine a_getD C 1 (by decide) fl_X2_13 (Or.inl rfl) dX2_beyond_16 e7 ?_
    obtain rfl := sp1 e
    exact a_widen (Nat.le_of_ble_eq_true rfl) (Nat.le_of_ble_eq_true rfl) (a_sub [0, 1] rfl jj5)
  · have e := ip c3 e
    refine a_aload_n C dX2_beyond_8 rfl 0 rfl ?_
    obtain ⟨g10, e9, e⟩ := bA_some e
    refine a_getD C 2 (by decide) fl_X2_16 (Or.inl rfl) dX2_beyond_9 e9 ?_
    refine a_goto (tgt := 19) C dX2_beyond_12 (by decide) ?_
    obtain rfl := sp1 e
    exact a_widen (Nat.le_of_ble_eq_true rfl) (Nat.le_of_ble_eq_true rfl) (a_sub [0, 1] rfl jj5)

set_option maxRecDepth 100000 in
def f_X2_is (h : Hp) (x0 : Nat) (x1 : Int32) : Option (Int32 × Hp) := bA (if x1 = 0 then some (1 : Int32) else some (0 : Int32)) fun j2 => bA (bz j2) fun z5 => some (j2, h)

theorem m_X2_is : MI yX2_is cX2_is 2 (some .boolean) 1 := ⟨co_X2_is, ini_X2, by decide, by decide +kernel⟩
set_option maxRecDepth 100000 in
set_option maxHeartbeats 4000000 in
theorem k_X2_is {lo : Nat} {h : Hp} {x0 : Nat} {x1 : Int32} {r : Int32} {h' : Hp} (e : f_X2_is h x0 x1 = some (r, h')) : ∀ l d, AC l d lo yX2_is cX2_is 2 (some .boolean) ({ frames := 0, cells := 0, slots := 0, locals := 0 } : Room) [.ref (lo + x0), .int x1] h (some (.int r)) h' := by
  intro l d
  refine AC_of (by decide) (Nat.le_of_ble_eq_true rfl) ?_
  intro G C _ _ q
  unfold f_X2_is at e
  show AW G lo 0 0 0 [(0, .ref (lo + x0)), (1, .int x1)] [] h
  refine a_iload_n C dX2_is_0 rfl 1 rfl ?_
  obtain ⟨j2, eb4, e⟩ := bA_some e
  have jj3 : AW G lo 0 0 9 [(0, .ref (lo + x0)), (1, .int x1)] [.int j2] h := by
    obtain ⟨z5, e6, e⟩ := bA_some e
    obtain ⟨rfl, rfl⟩ := sp2 e
    exact a_zret C q (bz_some e6) (Nat.le_of_ble_eq_true rfl) (Nat.le_of_ble_eq_true rfl) dX2_is_9
  have e := eb4
  refine a_if_ne (tgt := 8) C dX2_is_1 (by decide) (fun c1 => ?_) (fun c1 => ?_)
  · have e := iN c1 e
    refine a_iconst (v := (0 : Int32)) C dX2_is_8 (by decide) ?_
    obtain rfl := sp1 e
    exact a_widen (Nat.le_of_ble_eq_true rfl) (Nat.le_of_ble_eq_true rfl) (a_sub [0, 1] rfl jj3)
  · have e := ip c1 e
    refine a_iconst (v := (1 : Int32)) C dX2_is_4 (by decide) ?_
    refine a_goto (tgt := 9) C dX2_is_5 (by decide) ?_
    obtain rfl := sp1 e
    exact a_widen (Nat.le_of_ble_eq_true rfl) (Nat.le_of_ble_eq_true rfl) (a_sub [0, 1] rfl jj3)

set_option maxRecDepth 100000 in
set_option maxHeartbeats 4000000 in
theorem kv_X2_is {lo : Nat} {h : Hp} {x0 : Nat} {x1 : Int32} {r : Int32} {h' : Hp} (e : f_X2_is h x0 x1 = some (r, h')) : ∀ l d, AC l d lo yX2_is cX2_is 2 (some .boolean) ({ frames := 4, cells := 0, slots := 0, locals := 100 } : Room) [.ref (lo + x0), .int x1] h (some (.int r)) h' := by
  intro l d
  refine AC_of (by decide) (Nat.le_of_ble_eq_true rfl) ?_
  intro G C _ _ q
  unfold f_X2_is at e
  show AW G lo 0 0 0 [(0, .ref (lo + x0)), (1, .int x1)] [] h
  refine a_iload_n C dX2_is_0 rfl 1 rfl ?_
  obtain ⟨j2, eb4, e⟩ := bA_some e
  have jj3 : AW G lo 0 0 9 [(0, .ref (lo + x0)), (1, .int x1)] [.int j2] h := by
    obtain ⟨z5, e6, e⟩ := bA_some e
    obtain ⟨rfl, rfl⟩ := sp2 e
    exact a_zret C q (bz_some e6) (Nat.le_of_ble_eq_true rfl) (Nat.le_of_ble_eq_true rfl) dX2_is_9
  have e := eb4
  refine a_if_ne (tgt := 8) C dX2_is_1 (by decide) (fun c1 => ?_) (fun c1 => ?_)
  · have e := iN c1 e
    refine a_iconst (v := (0 : Int32)) C dX2_is_8 (by decide) ?_
    obtain rfl := sp1 e
    exact a_widen (Nat.le_of_ble_eq_true rfl) (Nat.le_of_ble_eq_true rfl) (a_sub [0, 1] rfl jj3)
  · have e := ip c1 e
    refine a_iconst (v := (1 : Int32)) C dX2_is_4 (by decide) ?_
    refine a_goto (tgt := 9) C dX2_is_5 (by decide) ?_
    obtain rfl := sp1 e
    exact a_widen (Nat.le_of_ble_eq_true rfl) (Nat.le_of_ble_eq_true rfl) (a_sub [0, 1] rfl jj3)

set_option maxRecDepth 100000 in
def f_X4_is (h : Hp) (x0 : Nat) (x1 : Int32) : Option (Int32 × Hp) := b2 (if x1 = (1 : Int32) then some ((1 : Int32), h) else bA (gC h x0) fun c12 => b2 (f_X2_is h x0 x1) fun r8 h6 => (if r8 = 0 then some ((0 : Int32), h6) else some ((1 : Int32), h6))) fun j2 h3 => bA (bz j2) fun z15 => some (j2, h3)

theorem m_X4_is : MI yX4_is cX4_is 2 (some .boolean) 1 := ⟨co_X4_is, ini_X4, by decide, by decide +kernel⟩
set_option maxRecDepth 100000 in
set_option maxHeartbeats 4000000 in
theorem k_X4_is {lo : Nat} {h : Hp} {x0 : Nat} {x1 : Int32} {r : Int32} {h' : Hp} (e : f_X4_is h x0 x1 = some (r, h')) : ∀ l d, AC l d lo yX4_is cX4_is 2 (some .boolean) ({ frames := 1, cells := 0, slots := 0, locals := 21 } : Room) [.ref (lo + x0), .int x1] h (some (.int r)) h' := by
  intro l d
  refine AC_of (by decide) (Nat.le_of_ble_eq_true rfl) ?_
  intro G C _ _ q
  unfold f_X4_is at e
  show AW G lo 0 0 0 [(0, .ref (lo + x0)), (1, .int x1)] [] h
  refine a_iload_n C dX4_is_0 rfl 1 rfl ?_
  refine a_iconst (v := (1 : Int32)) C dX4_is_1 (by decide) ?_
  obtain ⟨j2, h3, eb5, e⟩ := b2_some e
  have jj4 : AW G lo 0 0 18 [(0, .ref (lo + x0)), (1, .int x1)] [.int j2] h3 := by
    obtain ⟨z15, e16, e⟩ := bA_some e
    obtain ⟨rfl, rfl⟩ := sp2 e
    exact a_zret C q (bz_some e16) (Nat.le_of_ble_eq_true rfl) (Nat.le_of_ble_eq_true rfl) dX4_is_18
  have e := eb5
  refine a_icmp_eq (tgt := 13) C dX4_is_2 (by decide) (fun c1 => ?_) (fun c1 => ?_)
  · have e := ip c1 e
    refine a_iconst (v := (1 : Int32)) C dX4_is_13 (by decide) ?_
    refine a_goto (tgt := 18) C dX4_is_14 (by decide) ?_
    obtain ⟨rfl, rfl⟩ := sp2 e
    exact a_widen (Nat.le_of_ble_eq_true rfl) (Nat.le_of_ble_eq_true rfl) (a_sub [0, 1] rfl jj4)
  · have e := iN c1 e
    refine a_aload_n C dX4_is_5 rfl 0 rfl ?_
    refine a_iload_n C dX4_is_6 rfl 1 rfl ?_
    obtain ⟨c12, ec11, e⟩ := bA_some e
    obtain ⟨fs10, eo9, ed13⟩ := gC_some ec11
    obtain ⟨r8, h6, e7, e⟩ := b2_some e
    obtain ⟨_, _, cb_c12⟩ := isD_cb ed13
    refine a_callSU (as := [.int x1]) (rest := []) C m_X2_is (by decide) im_X2_is cb_c12 sam_X2_X2_is sup_X4_X2 ml_X4_7 rfl (Nat.le_of_ble_eq_true rfl) (Nat.le_of_ble_eq_true rfl) (Nat.le_of_ble_eq_true rfl) (Nat.le_of_ble_eq_true rfl) (Nat.le_of_ble_eq_true rfl) dX4_is_7 eo9 (k_X2_is e7) rfl ?_
    show AW G lo 0 0 10 [(0, .ref (lo + x0)), (1, .int x1)] [.int r8] h6
    refine a_if_eq (tgt := 17) C dX4_is_10 (by decide) (fun c14 => ?_) (fun c14 => ?_)
    · have e := ip c14 e
      refine a_iconst (v := (0 : Int32)) C dX4_is_17 (by decide) ?_
      obtain ⟨rfl, rfl⟩ := sp2 e
      exact a_widen (Nat.le_of_ble_eq_true rfl) (Nat.le_of_ble_eq_true rfl) (a_sub [0, 1] rfl jj4)
    · have e := iN c14 e
      refine a_iconst (v := (1 : Int32)) C dX4_is_13 (by decide) ?_
      refine a_goto (tgt := 18) C dX4_is_14 (by decide) ?_
      obtain ⟨rfl, rfl⟩ := sp2 e
      exact a_widen (Nat.le_of_ble_eq_true rfl) (Nat.le_of_ble_eq_true rfl) (a_sub [0, 1] rfl jj4)

set_option maxRecDepth 100000 in
set_option maxHeartbeats 4000000 in
theorem kv_X4_is {lo : Nat} {h : Hp} {x0 : Nat} {x1 : Int32} {r : Int32} {h' : Hp} (e : f_X4_is h x0 x1 = some (r, h')) : ∀ l d, AC l d lo yX4_is cX4_is 2 (some .boolean) ({ frames := 4, cells := 0, slots := 0, locals := 100 } : Room) [.ref (lo + x0), .int x1] h (some (.int r)) h' := by
  intro l d
  refine AC_of (by decide) (Nat.le_of_ble_eq_true rfl) ?_
  intro G C _ _ q
  unfold f_X4_is at e
  show AW G lo 0 0 0 [(0, .ref (lo + x0)), (1, .int x1)] [] h
  refine a_iload_n C dX4_is_0 rfl 1 rfl ?_
  refine a_iconst (v := (1 : Int32)) C dX4_is_1 (by decide) ?_
  obtain ⟨j2, h3, eb5, e⟩ := b2_some e
  have jj4 : AW G lo 0 0 18 [(0, .ref (lo + x0)), (1, .int x1)] [.int j2] h3 := by
    obtain ⟨z15, e16, e⟩ := bA_some e
    obtain ⟨rfl, rfl⟩ := sp2 e
    exact a_zret C q (bz_some e16) (Nat.le_of_ble_eq_true rfl) (Nat.le_of_ble_eq_true rfl) dX4_is_18
  have e := eb5
  refine a_icmp_eq (tgt := 13) C dX4_is_2 (by decide) (fun c1 => ?_) (fun c1 => ?_)
  · have e := ip c1 e
    refine a_iconst (v := (1 : Int32)) C dX4_is_13 (by decide) ?_
    refine a_goto (tgt := 18) C dX4_is_14 (by decide) ?_
    obtain ⟨rfl, rfl⟩ := sp2 e
    exact a_widen (Nat.le_of_ble_eq_true rfl) (Nat.le_of_ble_eq_true rfl) (a_sub [0, 1] rfl jj4)
  · have e := iN c1 e
    refine a_aload_n C dX4_is_5 rfl 0 rfl ?_
    refine a_iload_n C dX4_is_6 rfl 1 rfl ?_
    obtain ⟨c12, ec11, e⟩ := bA_some e
    obtain ⟨fs10, eo9, ed13⟩ := gC_some ec11
    obtain ⟨r8, h6, e7, e⟩ := b2_some e
    obtain ⟨_, _, cb_c12⟩ := isD_cb ed13
    refine a_callSU (as := [.int x1]) (rest := []) C m_X2_is (by decide) im_X2_is cb_c12 sam_X2_X2_is sup_X4_X2 ml_X4_7 rfl (Nat.le_of_ble_eq_true rfl) (Nat.le_of_ble_eq_true rfl) (Nat.le_of_ble_eq_true rfl) (Nat.le_of_ble_eq_true rfl) (Nat.le_of_ble_eq_true rfl) dX4_is_7 eo9 (k_X2_is e7) rfl ?_
    show AW G lo 0 0 10 [(0, .ref (lo + x0)), (1, .int x1)] [.int r8] h6
    refine a_if_eq (tgt := 17) C dX4_is_10 (by decide) (fun c14 => ?_) (fun c14 => ?_)
    · have e := ip c14 e
      refine a_iconst (v := (0 : Int32)) C dX4_is_17 (by decide) ?_
      obtain ⟨rfl, rfl⟩ := sp2 e
      exact a_widen (Nat.le_of_ble_eq_true rfl) (Nat.le_of_ble_eq_true rfl) (a_sub [0, 1] rfl jj4)
    · have e := iN c14 e
      refine a_iconst (v := (1 : Int32)) C dX4_is_13 (by decide) ?_
      refine a_goto (tgt := 18) C dX4_is_14 (by decide) ?_
      obtain ⟨rfl, rfl⟩ := sp2 e
      exact a_widen (Nat.le_of_ble_eq_true rfl) (Nat.le_of_ble_eq_true rfl) (a_sub [0, 1] rfl jj4)

set_option maxRecDepth 100000 in
def f_X5_is (h : Hp) (x0 : Nat) (x1 : Int32) : Option (Int32 × Hp) := b2 (if x1 = (4 : Int32) then some ((1 : Int32), h) else bA (gC h x0) fun c12 => b2 (f_X2_is h x0 x1) fun r8 h6 => (if r8 = 0 then some ((0 : Int32), h6) else some ((1 : Int32), h6))) fun j2 h3 => bA (bz j2) fun z15 => some (j2, h3)

theorem m_X5_is : MI yX5_is cX5_is 2 (some .boolean) 1 := ⟨co_X5_is, ini_X5, by decide, by decide +kernel⟩
set_option maxRecDepth 100000 in
set_option maxHeartbeats 4000000 in
theorem k_X5_is {lo : Nat} {h : Hp} {x0 : Nat} {x1 : Int32} {r : Int32} {h' : Hp} (e : f_X5_is h x0 x1 = some (r, h')) : ∀ l d, AC l d lo yX5_is cX5_is 2 (some .boolean) ({ frames := 1, cells := 0, slots := 0, locals := 21 } : Room) [.ref (lo + x0), .int x1] h (some (.int r)) h' := by
  intro l d
  refine AC_of (by decide) (Nat.le_of_ble_eq_true rfl) ?_
  intro G C _ _ q
  unfold f_X5_is at e
  show AW G lo 0 0 0 [(0, .ref (lo + x0)), (1, .int x1)] [] h
  refine a_iload_n C dX5_is_0 rfl 1 rfl ?_
  refine a_iconst (v := (4 : Int32)) C dX5_is_1 (by decide) ?_
  obtain ⟨j2, h3, eb5, e⟩ := b2_some e
  have jj4 : AW G lo 0 0 18 [(0, .ref (lo + x0)), (1, .int x1)] [.int j2] h3 := by
    obtain ⟨z15, e16, e⟩ := bA_some e
    obtain ⟨rfl, rfl⟩ := sp2 e
    exact a_zret C q (bz_some e16) (Nat.le_of_ble_eq_true rfl) (Nat.le_of_ble_eq_true rfl) dX5_is_18
  have e := eb5
  refine a_icmp_eq (tgt := 13) C dX5_is_2 (by decide) (fun c1 => ?_) (fun c1 => ?_)
  · have e := ip c1 e
    refine a_iconst (v := (1 : Int32)) C dX5_is_13 (by decide) ?_
    refine a_goto (tgt := 18) C dX5_is_14 (by decide) ?_
    obtain ⟨rfl, rfl⟩ := sp2 e
    exact a_widen (Nat.le_of_ble_eq_true rfl) (Nat.le_of_ble_eq_true rfl) (a_sub [0, 1] rfl jj4)
  · have e := iN c1 e
    refine a_aload_n C dX5_is_5 rfl 0 rfl ?_
    refine a_iload_n C dX5_is_6 rfl 1 rfl ?_
    obtain ⟨c12, ec11, e⟩ := bA_some e
    obtain ⟨fs10, eo9, ed13⟩ := gC_some ec11
    obtain ⟨r8, h6, e7, e⟩ := b2_some e
    obtain ⟨_, _, cb_c12⟩ := isD_cb ed13
    refine a_callSU (as := [.int x1]) (rest := []) C m_X2_is (by decide) im_X2_is cb_c12 sam_X2_X2_is sup_X5_X2 ml_X5_7 rfl (Nat.le_of_ble_eq_true rfl) (Nat.le_of_ble_eq_true rfl) (Nat.le_of_ble_eq_true rfl) (Nat.le_of_ble_eq_true rfl) (Nat.le_of_ble_eq_true rfl) dX5_is_7 eo9 (k_X2_is e7) rfl ?_
    show AW G lo 0 0 10 [(0, .ref (lo + x0)), (1, .int x1)] [.int r8] h6
    refine a_if_eq (tgt := 17) C dX5_is_10 (by decide) (fun c14 => ?_) (fun c14 => ?_)
    · have e := ip c14 e
      refine a_iconst (v := (0 : Int32)) C dX5_is_17 (by decide) ?_
      obtain ⟨rfl, rfl⟩ := sp2 e
      exact a_widen (Nat.le_of_ble_eq_true rfl) (Nat.le_of_ble_eq_true rfl) (a_sub [0, 1] rfl jj4)
    · have e := iN c14 e
      refine a_iconst (v := (1 : Int32)) C dX5_is_13 (by decide) ?_
      refine a_goto (tgt := 18) C dX5_is_14 (by decide) ?_
      obtain ⟨rfl, rfl⟩ := sp2 e
      exact a_widen (Nat.le_of_ble_eq_true rfl) (Nat.le_of_ble_eq_true rfl) (a_sub [0, 1] rfl jj4)

set_option maxRecDepth 100000 in
set_option maxHeartbeats 4000000 in
theorem kv_X5_is {lo : Nat} {h : Hp} {x0 : Nat} {x1 : Int32} {r : Int32} {h' : Hp} (e : f_X5_is h x0 x1 = some (r, h')) : ∀ l d, AC l d lo yX5_is cX5_is 2 (some .boolean) ({ frames := 4, cells := 0, slots := 0, locals := 100 } : Room) [.ref (lo + x0), .int x1] h (some (.int r)) h' := by
  intro l d
  refine AC_of (by decide) (Nat.le_of_ble_eq_true rfl) ?_
  intro G C _ _ q
  unfold f_X5_is at e
  show AW G lo 0 0 0 [(0, .ref (lo + x0)), (1, .int x1)] [] h
  refine a_iload_n C dX5_is_0 rfl 1 rfl ?_
  refine a_iconst (v := (4 : Int32)) C dX5_is_1 (by decide) ?_
  obtain ⟨j2, h3, eb5, e⟩ := b2_some e
  have jj4 : AW G lo 0 0 18 [(0, .ref (lo + x0)), (1, .int x1)] [.int j2] h3 := by
    obtain ⟨z15, e16, e⟩ := bA_some e
    obtain ⟨rfl, rfl⟩ := sp2 e
    exact a_zret C q (bz_some e16) (Nat.le_of_ble_eq_true rfl) (Nat.le_of_ble_eq_true rfl) dX5_is_18
  have e := eb5
  refine a_icmp_eq (tgt := 13) C dX5_is_2 (by decide) (fun c1 => ?_) (fun c1 => ?_)
  · have e := ip c1 e
    refine a_iconst (v := (1 : Int32)) C dX5_is_13 (by decide) ?_
    refine a_goto (tgt := 18) C dX5_is_14 (by decide) ?_
    obtain ⟨rfl, rfl⟩ := sp2 e
    exact a_widen (Nat.le_of_ble_eq_true rfl) (Nat.le_of_ble_eq_true rfl) (a_sub [0, 1] rfl jj4)
  · have e := iN c1 e
    refine a_aload_n C dX5_is_5 rfl 0 rfl ?_
    refine a_iload_n C dX5_is_6 rfl 1 rfl ?_
    obtain ⟨c12, ec11, e⟩ := bA_some e
    obtain ⟨fs10, eo9, ed13⟩ := gC_some ec11
    obtain ⟨r8, h6, e7, e⟩ := b2_some e
    obtain ⟨_, _, cb_c12⟩ := isD_cb ed13
    refine a_callSU (as := [.int x1]) (rest := []) C m_X2_is (by decide) im_X2_is cb_c12 sam_X2_X2_is sup_X5_X2 ml_X5_7 rfl (Nat.le_of_ble_eq_true rfl) (Nat.le_of_ble_eq_true rfl) (Nat.le_of_ble_eq_true rfl) (Nat.le_of_ble_eq_true rfl) (Nat.le_of_ble_eq_true rfl) dX5_is_7 eo9 (k_X2_is e7) rfl ?_
    show AW G lo 0 0 10 [(0, .ref (lo + x0)), (1, .int x1)] [.int r8] h6
    refine a_if_eq (tgt := 17) C dX5_is_10 (by decide) (fun c14 => ?_) (fun c14 => ?_)
    · have e := ip c14 e
      refine a_iconst (v := (0 : Int32)) C dX5_is_17 (by decide) ?_
      obtain ⟨rfl, rfl⟩ := sp2 e
      exact a_widen (Nat.le_of_ble_eq_true rfl) (Nat.le_of_ble_eq_true rfl) (a_sub [0, 1] rfl jj4)
    · have e := iN c14 e
      refine a_iconst (v := (1 : Int32)) C dX5_is_13 (by decide) ?_
      refine a_goto (tgt := 18) C dX5_is_14 (by decide) ?_
      obtain ⟨rfl, rfl⟩ := sp2 e
      exact a_widen (Nat.le_of_ble_eq_true rfl) (Nat.le_of_ble_eq_true rfl) (a_sub [0, 1] rfl jj4)

set_option maxRecDepth 100000 in
def f_X0_is (h : Hp) (x0 : Nat) (x1 : Int32) : Option (Int32 × Hp) := b2 (if x1 = (2 : Int32) then some ((1 : Int32), h) else bA (gC h x0) fun c12 => b2 (f_X4_is h x0 x1) fun r8 h6 => (if r8 = 0 then some ((0 : Int32), h6) else some ((1 : Int32), h6))) fun j2 h3 => bA (bz j2) fun z15 => some (j2, h3)

theorem m_X0_is : MI yX0_is cX0_is 2 (some .boolean) 1 := ⟨co_X0_is, ini_X0, by decide, by decide +kernel⟩
set_option maxRecDepth 100000 in
set_option maxHeartbeats 4000000 in
theorem k_X0_is {lo : Nat} {h : Hp} {x0 : Nat} {x1 : Int32} {r : Int32} {h' : Hp} (e : f_X0_is h x0 x1 = some (r, h')) : ∀ l d, AC l d lo yX0_is cX0_is 2 (some .boolean) ({ frames := 2, cells := 0, slots := 0, locals := 42 } : Room) [.ref (lo + x0), .int x1] h (some (.int r)) h' := by
  intro l d
  refine AC_of (by decide) (Nat.le_of_ble_eq_true rfl) ?_
  intro G C _ _ q
  unfold f_X0_is at e
  show AW G lo 0 0 0 [(0, .ref (lo + x0)), (1, .int x1)] [] h
  refine a_iload_n C dX0_is_0 rfl 1 rfl ?_
  refine a_iconst (v := (2 : Int32)) C dX0_is_1 (by decide) ?_
  obtain ⟨j2, h3, eb5, e⟩ := b2_some e
  have jj4 : AW G lo 0 0 18 [(0, .ref (lo + x0)), (1, .int x1)] [.int j2] h3 := by
    obtain ⟨z15, e16, e⟩ := bA_some e
    obtain ⟨rfl, rfl⟩ := sp2 e
    exact a_zret C q (bz_some e16) (Nat.le_of_ble_eq_true rfl) (Nat.le_of_ble_eq_true rfl) dX0_is_18
  have e := eb5
  refine a_icmp_eq (tgt := 13) C dX0_is_2 (by decide) (fun c1 => ?_) (fun c1 => ?_)
  · have e := ip c1 e
    refine a_iconst (v := (1 : Int32)) C dX0_is_13 (by decide) ?_
    refine a_goto (tgt := 18) C dX0_is_14 (by decide) ?_
    obtain ⟨rfl, rfl⟩ := sp2 e
    exact a_widen (Nat.le_of_ble_eq_true rfl) (Nat.le_of_ble_eq_true rfl) (a_sub [0, 1] rfl jj4)
  · have e := iN c1 e
    refine a_aload_n C dX0_is_5 rfl 0 rfl ?_
    refine a_iload_n C dX0_is_6 rfl 1 rfl ?_
    obtain ⟨c12, ec11, e⟩ := bA_some e
    obtain ⟨fs10, eo9, ed13⟩ := gC_some ec11
    obtain ⟨r8, h6, e7, e⟩ := b2_some e
    obtain ⟨_, _, cb_c12⟩ := isD_cb ed13
    refine a_callSU (as := [.int x1]) (rest := []) C m_X4_is (by decide) im_X4_is cb_c12 sam_X4_X4_is sup_X0_X4 ml_X0_7 rfl (Nat.le_of_ble_eq_true rfl) (Nat.le_of_ble_eq_true rfl) (Nat.le_of_ble_eq_true rfl) (Nat.le_of_ble_eq_true rfl) (Nat.le_of_ble_eq_true rfl) dX0_is_7 eo9 (k_X4_is e7) rfl ?_
    show AW G lo 0 0 10 [(0, .ref (lo + x0)), (1, .int x1)] [.int r8] h6
    refine a_if_eq (tgt := 17) C dX0_is_10 (by decide) (fun c14 => ?_) (fun c14 => ?_)
    · have e := ip c14 e
      refine a_iconst (v := (0 : Int32)) C dX0_is_17 (by decide) ?_
      obtain ⟨rfl, rfl⟩ := sp2 e
      exact a_widen (Nat.le_of_ble_eq_true rfl) (Nat.le_of_ble_eq_true rfl) (a_sub [0, 1] rfl jj4)
    · have e := iN c14 e
      refine a_iconst (v := (1 : Int32)) C dX0_is_13 (by decide) ?_
      refine a_goto (tgt := 18) C dX0_is_14 (by decide) ?_
      obtain ⟨rfl, rfl⟩ := sp2 e
      exact a_widen (Nat.le_of_ble_eq_true rfl) (Nat.le_of_ble_eq_true rfl) (a_sub [0, 1] rfl jj4)

set_option maxRecDepth 100000 in
set_option maxHeartbeats 4000000 in
theorem kv_X0_is {lo : Nat} {h : Hp} {x0 : Nat} {x1 : Int32} {r : Int32} {h' : Hp} (e : f_X0_is h x0 x1 = some (r, h')) : ∀ l d, AC l d lo yX0_is cX0_is 2 (some .boolean) ({ frames := 4, cells := 0, slots := 0, locals := 100 } : Room) [.ref (lo + x0), .int x1] h (some (.int r)) h' := by
  intro l d
  refine AC_of (by decide) (Nat.le_of_ble_eq_true rfl) ?_
  intro G C _ _ q
  unfold f_X0_is at e
  show AW G lo 0 0 0 [(0, .ref (lo + x0)), (1, .int x1)] [] h
  refine a_iload_n C dX0_is_0 rfl 1 rfl ?_
  refine a_iconst (v := (2 : Int32)) C dX0_is_1 (by decide) ?_
  obtain ⟨j2, h3, eb5, e⟩ := b2_some e
  have jj4 : AW G lo 0 0 18 [(0, .ref (lo + x0)), (1, .int x1)] [.int j2] h3 := by
    obtain ⟨z15, e16, e⟩ := bA_some e
    obtain ⟨rfl, rfl⟩ := sp2 e
    exact a_zret C q (bz_some e16) (Nat.le_of_ble_eq_true rfl) (Nat.le_of_ble_eq_true rfl) dX0_is_18
  have e := eb5
  refine a_icmp_eq (tgt := 13) C dX0_is_2 (by decide) (fun c1 => ?_) (fun c1 => ?_)
  · have e := ip c1 e
    refine a_iconst (v := (1 : Int32)) C dX0_is_13 (by decide) ?_
    refine a_goto (tgt := 18) C dX0_is_14 (by decide) ?_
    obtain ⟨rfl, rfl⟩ := sp2 e
    exact a_widen (Nat.le_of_ble_eq_true rfl) (Nat.le_of_ble_eq_true rfl) (a_sub [0, 1] rfl jj4)
  · have e := iN c1 e
    refine a_aload_n C dX0_is_5 rfl 0 rfl ?_
    refine a_iload_n C dX0_is_6 rfl 1 rfl ?_
    obtain ⟨c12, ec11, e⟩ := bA_some e
    obtain ⟨fs10, eo9, ed13⟩ := gC_some ec11
    obtain ⟨r8, h6, e7, e⟩ := b2_some e
    obtain ⟨_, _, cb_c12⟩ := isD_cb ed13
    refine a_callSU (as := [.int x1]) (rest := []) C m_X4_is (by decide) im_X4_is cb_c12 sam_X4_X4_is sup_X0_X4 ml_X0_7 rfl (Nat.le_of_ble_eq_true rfl) (Nat.le_of_ble_eq_true rfl) (Nat.le_of_ble_eq_true rfl) (Nat.le_of_ble_eq_true rfl) (Nat.le_of_ble_eq_true rfl) dX0_is_7 eo9 (k_X4_is e7) rfl ?_
    show AW G lo 0 0 10 [(0, .ref (lo + x0)), (1, .int x1)] [.int r8] h6
    refine a_if_eq (tgt := 17) C dX0_is_10 (by decide) (fun c14 => ?_) (fun c14 => ?_)
    · have e := ip c14 e
      refine a_iconst (v := (0 : Int32)) C dX0_is_17 (by decide) ?_
      obtain ⟨rfl, rfl⟩ := sp2 e
      exact a_widen (Nat.le_of_ble_eq_true rfl) (Nat.le_of_ble_eq_true rfl) (a_sub [0, 1] rfl jj4)
    · have e := iN c14 e
      refine a_iconst (v := (1 : Int32)) C dX0_is_13 (by decide) ?_
      refine a_goto (tgt := 18) C dX0_is_14 (by decide) ?_
      obtain ⟨rfl, rfl⟩ := sp2 e
      exact a_widen (Nat.le_of_ble_eq_true rfl) (Nat.le_of_ble_eq_true rfl) (a_sub [0, 1] rfl jj4)

set_option maxRecDepth 100000 in
def f_X1_is (h : Hp) (x0 : Nat) (x1 : Int32) : Option (Int32 × Hp) := b2 (if x1 = (3 : Int32) then some ((1 : Int32), h) else bA (gC h x0) fun c12 => b2 (f_X4_is h x0 x1) fun r8 h6 => (if r8 = 0 then some ((0 : Int32), h6) else some ((1 : Int32), h6))) fun j2 h3 => bA (bz j2) fun z15 => some (j2, h3)

theorem m_X1_is : MI yX1_is cX1_is 2 (some .boolean) 1 := ⟨co_X1_is, ini_X1, by decide, by decide +kernel⟩
set_option maxRecDepth 100000 in
set_option maxHeartbeats 4000000 in
theorem k_X1_is {lo : Nat} {h : Hp} {x0 : Nat} {x1 : Int32} {r : Int32} {h' : Hp} (e : f_X1_is h x0 x1 = some (r, h')) : ∀ l d, AC l d lo yX1_is cX1_is 2 (some .boolean) ({ frames := 2, cells := 0, slots := 0, locals := 42 } : Room) [.ref (lo + x0), .int x1] h (some (.int r)) h' := by
  intro l d
  refine AC_of (by decide) (Nat.le_of_ble_eq_true rfl) ?_
  intro G C _ _ q
  unfold f_X1_is at e
  show AW G lo 0 0 0 [(0, .ref (lo + x0)), (1, .int x1)] [] h
  refine a_iload_n C dX1_is_0 rfl 1 rfl ?_
  refine a_iconst (v := (3 : Int32)) C dX1_is_1 (by decide) ?_
  obtain ⟨j2, h3, eb5, e⟩ := b2_some e
  have jj4 : AW G lo 0 0 18 [(0, .ref (lo + x0)), (1, .int x1)] [.int j2] h3 := by
    obtain ⟨z15, e16, e⟩ := bA_some e
    obtain ⟨rfl, rfl⟩ := sp2 e
    exact a_zret C q (bz_some e16) (Nat.le_of_ble_eq_true rfl) (Nat.le_of_ble_eq_true rfl) dX1_is_18
  have e := eb5
  refine a_icmp_eq (tgt := 13) C dX1_is_2 (by decide) (fun c1 => ?_) (fun c1 => ?_)
  · have e := ip c1 e
    refine a_iconst (v := (1 : Int32)) C dX1_is_13 (by decide) ?_
    refine a_goto (tgt := 18) C dX1_is_14 (by decide) ?_
    obtain ⟨rfl, rfl⟩ := sp2 e
    exact a_widen (Nat.le_of_ble_eq_true rfl) (Nat.le_of_ble_eq_true rfl) (a_sub [0, 1] rfl jj4)
  · have e := iN c1 e
    refine a_aload_n C dX1_is_5 rfl 0 rfl ?_
    refine a_iload_n C dX1_is_6 rfl 1 rfl ?_
    obtain ⟨c12, ec11, e⟩ := bA_some e
    obtain ⟨fs10, eo9, ed13⟩ := gC_some ec11
    obtain ⟨r8, h6, e7, e⟩ := b2_some e
    obtain ⟨_, _, cb_c12⟩ := isD_cb ed13
    refine a_callSU (as := [.int x1]) (rest := []) C m_X4_is (by decide) im_X4_is cb_c12 sam_X4_X4_is sup_X1_X4 ml_X1_7 rfl (Nat.le_of_ble_eq_true rfl) (Nat.le_of_ble_eq_true rfl) (Nat.le_of_ble_eq_true rfl) (Nat.le_of_ble_eq_true rfl) (Nat.le_of_ble_eq_true rfl) dX1_is_7 eo9 (k_X4_is e7) rfl ?_
    show AW G lo 0 0 10 [(0, .ref (lo + x0)), (1, .int x1)] [.int r8] h6
    refine a_if_eq (tgt := 17) C dX1_is_10 (by decide) (fun c14 => ?_) (fun c14 => ?_)
    · have e := ip c14 e
      refine a_iconst (v := (0 : Int32)) C dX1_is_17 (by decide) ?_
      obtain ⟨rfl, rfl⟩ := sp2 e
      exact a_widen (Nat.le_of_ble_eq_true rfl) (Nat.le_of_ble_eq_true rfl) (a_sub [0, 1] rfl jj4)
    · have e := iN c14 e
      refine a_iconst (v := (1 : Int32)) C dX1_is_13 (by decide) ?_
      refine a_goto (tgt := 18) C dX1_is_14 (by decide) ?_
      obtain ⟨rfl, rfl⟩ := sp2 e
      exact a_widen (Nat.le_of_ble_eq_true rfl) (Nat.le_of_ble_eq_true rfl) (a_sub [0, 1] rfl jj4)

set_option maxRecDepth 100000 in
set_option maxHeartbeats 4000000 in
theorem kv_X1_is {lo : Nat} {h : Hp} {x0 : Nat} {x1 : Int32} {r : Int32} {h' : Hp} (e : f_X1_is h x0 x1 = some (r, h')) : ∀ l d, AC l d lo yX1_is cX1_is 2 (some .boolean) ({ frames := 4, cells := 0, slots := 0, locals := 100 } : Room) [.ref (lo + x0), .int x1] h (some (.int r)) h' := by
  intro l d
  refine AC_of (by decide) (Nat.le_of_ble_eq_true rfl) ?_
  intro G C _ _ q
  unfold f_X1_is at e
  show AW G lo 0 0 0 [(0, .ref (lo + x0)), (1, .int x1)] [] h
  refine a_iload_n C dX1_is_0 rfl 1 rfl ?_
  refine a_iconst (v := (3 : Int32)) C dX1_is_1 (by decide) ?_
  obtain ⟨j2, h3, eb5, e⟩ := b2_some e
  have jj4 : AW G lo 0 0 18 [(0, .ref (lo + x0)), (1, .int x1)] [.int j2] h3 := by
    obtain ⟨z15, e16, e⟩ := bA_some e
    obtain ⟨rfl, rfl⟩ := sp2 e
    exact a_zret C q (bz_some e16) (Nat.le_of_ble_eq_true rfl) (Nat.le_of_ble_eq_true rfl) dX1_is_18
  have e := eb5
  refine a_icmp_eq (tgt := 13) C dX1_is_2 (by decide) (fun c1 => ?_) (fun c1 => ?_)
  · have e := ip c1 e
    refine a_iconst (v := (1 : Int32)) C dX1_is_13 (by decide) ?_
    refine a_goto (tgt := 18) C dX1_is_14 (by decide) ?_
    obtain ⟨rfl, rfl⟩ := sp2 e
    exact a_widen (Nat.le_of_ble_eq_true rfl) (Nat.le_of_ble_eq_true rfl) (a_sub [0, 1] rfl jj4)
  · have e := iN c1 e
    refine a_aload_n C dX1_is_5 rfl 0 rfl ?_
    refine a_iload_n C dX1_is_6 rfl 1 rfl ?_
    obtain ⟨c12, ec11, e⟩ := bA_some e
    obtain ⟨fs10, eo9, ed13⟩ := gC_some ec11
    obtain ⟨r8, h6, e7, e⟩ := b2_some e
    obtain ⟨_, _, cb_c12⟩ := isD_cb ed13
    refine a_callSU (as := [.int x1]) (rest := []) C m_X4_is (by decide) im_X4_is cb_c12 sam_X4_X4_is sup_X1_X4 ml_X1_7 rfl (Nat.le_of_ble_eq_true rfl) (Nat.le_of_ble_eq_true rfl) (Nat.le_of_ble_eq_true rfl) (Nat.le_of_ble_eq_true rfl) (Nat.le_of_ble_eq_true rfl) dX1_is_7 eo9 (k_X4_is e7) rfl ?_
    show AW G lo 0 0 10 [(0, .ref (lo + x0)), (1, .int x1)] [.int r8] h6
    refine a_if_eq (tgt := 17) C dX1_is_10 (by decide) (fun c14 => ?_) (fun c14 => ?_)
    · have e := ip c14 e
      refine a_iconst (v := (0 : Int32)) C dX1_is_17 (by decide) ?_
      obtain ⟨rfl, rfl⟩ := sp2 e
      exact a_widen (Nat.le_of_ble_eq_true rfl) (Nat.le_of_ble_eq_true rfl) (a_sub [0, 1] rfl jj4)
    · have e := iN c14 e
      refine a_iconst (v := (1 : Int32)) C dX1_is_13 (by decide) ?_
      refine a_goto (tgt := 18) C dX1_is_14 (by decide) ?_
      obtain ⟨rfl, rfl⟩ := sp2 e
      exact a_widen (Nat.le_of_ble_eq_true rfl) (Nat.le_of_ble_eq_true rfl) (a_sub [0, 1] rfl jj4)

set_option maxRecDepth 100000 in
def f_X9_is (h : Hp) (x0 : Nat) (x1 : Int32) : Option (Int32 × Hp) := b2 (if x1 = (5 : Int32) then some ((1 : Int32), h) else bA (gC h x0) fun c12 => b2 (f_X5_is h x0 x1) fun r8 h6 => (if r8 = 0 then some ((0 : Int32), h6) else some ((1 : Int32), h6))) fun j2 h3 => bA (bz j2) fun z15 => some (j2, h3)

theorem m_X9_is : MI yX9_is cX9_is 2 (some .boolean) 1 := ⟨co_X9_is, ini_X9, by decide, by decide +kernel⟩
set_option maxRecDepth 100000 in
set_option maxHeartbeats 4000000 in
theorem k_X9_is {lo : Nat} {h : Hp} {x0 : Nat} {x1 : Int32} {r : Int32} {h' : Hp} (e : f_X9_is h x0 x1 = some (r, h')) : ∀ l d, AC l d lo yX9_is cX9_is 2 (some .boolean) ({ frames := 2, cells := 0, slots := 0, locals := 42 } : Room) [.ref (lo + x0), .int x1] h (some (.int r)) h' := by
  intro l d
  refine AC_of (by decide) (Nat.le_of_ble_eq_true rfl) ?_
  intro G C _ _ q
  unfold f_X9_is at e
  show AW G lo 0 0 0 [(0, .ref (lo + x0)), (1, .int x1)] [] h
  refine a_iload_n C dX9_is_0 rfl 1 rfl ?_
  refine a_iconst (v := (5 : Int32)) C dX9_is_1 (by decide) ?_
  obtain ⟨j2, h3, eb5, e⟩ := b2_some e
  have jj4 : AW G lo 0 0 18 [(0, .ref (lo + x0)), (1, .int x1)] [.int j2] h3 := by
    obtain ⟨z15, e16, e⟩ := bA_some e
    obtain ⟨rfl, rfl⟩ := sp2 e
    exact a_zret C q (bz_some e16) (Nat.le_of_ble_eq_true rfl) (Nat.le_of_ble_eq_true rfl) dX9_is_18
  have e := eb5
  refine a_icmp_eq (tgt := 13) C dX9_is_2 (by decide) (fun c1 => ?_) (fun c1 => ?_)
  · have e := ip c1 e
    refine a_iconst (v := (1 : Int32)) C dX9_is_13 (by decide) ?_
    refine a_goto (tgt := 18) C dX9_is_14 (by decide) ?_
    obtain ⟨rfl, rfl⟩ := sp2 e
    exact a_widen (Nat.le_of_ble_eq_true rfl) (Nat.le_of_ble_eq_true rfl) (a_sub [0, 1] rfl jj4)
  · have e := iN c1 e
    refine a_aload_n C dX9_is_5 rfl 0 rfl ?_
    refine a_iload_n C dX9_is_6 rfl 1 rfl ?_
    obtain ⟨c12, ec11, e⟩ := bA_some e
    obtain ⟨fs10, eo9, ed13⟩ := gC_some ec11
    obtain ⟨r8, h6, e7, e⟩ := b2_some e
    obtain ⟨_, _, cb_c12⟩ := isD_cb ed13
    refine a_callSU (as := [.int x1]) (rest := []) C m_X5_is (by decide) im_X5_is cb_c12 sam_X5_X5_is sup_X9_X5 ml_X9_7 rfl (Nat.le_of_ble_eq_true rfl) (Nat.le_of_ble_eq_true rfl) (Nat.le_of_ble_eq_true rfl) (Nat.le_of_ble_eq_true rfl) (Nat.le_of_ble_eq_true rfl) dX9_is_7 eo9 (k_X5_is e7) rfl ?_
    show AW G lo 0 0 10 [(0, .ref (lo + x0)), (1, .int x1)] [.int r8] h6
    refine a_if_eq (tgt := 17) C dX9_is_10 (by decide) (fun c14 => ?_) (fun c14 => ?_)
    · have e := ip c14 e
      refine a_iconst (v := (0 : Int32)) C dX9_is_17 (by decide) ?_
      obtain ⟨rfl, rfl⟩ := sp2 e
      exact a_widen (Nat.le_of_ble_eq_true rfl) (Nat.le_of_ble_eq_true rfl) (a_sub [0, 1] rfl jj4)
    · have e := iN c14 e
      refine a_iconst (v := (1 : Int32)) C dX9_is_13 (by decide) ?_
      refine a_goto (tgt := 18) C dX9_is_14 (by decide) ?_
      obtain ⟨rfl, rfl⟩ := sp2 e
      exact a_widen (Nat.le_of_ble_eq_true rfl) (Nat.le_of_ble_eq_true rfl) (a_sub [0, 1] rfl jj4)

set_option maxRecDepth 100000 in
set_option maxHeartbeats 4000000 in
theorem kv_X9_is {lo : Nat} {h : Hp} {x0 : Nat} {x1 : Int32} {r : Int32} {h' : Hp} (e : f_X9_is h x0 x1 = some (r, h')) : ∀ l d, AC l d lo yX9_is cX9_is 2 (some .boolean) ({ frames := 4, cells := 0, slots := 0, locals := 100 } : Room) [.ref (lo + x0), .int x1] h (some (.int r)) h' := by
  intro l d
  refine AC_of (by decide) (Nat.le_of_ble_eq_true rfl) ?_
  intro G C _ _ q
  unfold f_X9_is at e
  show AW G lo 0 0 0 [(0, .ref (lo + x0)), (1, .int x1)] [] h
  refine a_iload_n C dX9_is_0 rfl 1 rfl ?_
  refine a_iconst (v := (5 : Int32)) C dX9_is_1 (by decide) ?_
  obtain ⟨j2, h3, eb5, e⟩ := b2_some e
  have jj4 : AW G lo 0 0 18 [(0, .ref (lo + x0)), (1, .int x1)] [.int j2] h3 := by
    obtain ⟨z15, e16, e⟩ := bA_some e
    obtain ⟨rfl, rfl⟩ := sp2 e
    exact a_zret C q (bz_some e16) (Nat.le_of_ble_eq_true rfl) (Nat.le_of_ble_eq_true rfl) dX9_is_18
  have e := eb5
  refine a_icmp_eq (tgt := 13) C dX9_is_2 (by decide) (fun c1 => ?_) (fun c1 => ?_)
  · have e := ip c1 e
    refine a_iconst (v := (1 : Int32)) C dX9_is_13 (by decide) ?_
    refine a_goto (tgt := 18) C dX9_is_14 (by decide) ?_
    obtain ⟨rfl, rfl⟩ := sp2 e
    exact a_widen (Nat.le_of_ble_eq_true rfl) (Nat.le_of_ble_eq_true rfl) (a_sub [0, 1] rfl jj4)
  · have e := iN c1 e
    refine a_aload_n C dX9_is_5 rfl 0 rfl ?_
    refine a_iload_n C dX9_is_6 rfl 1 rfl ?_
    obtain ⟨c12, ec11, e⟩ := bA_some e
    obtain ⟨fs10, eo9, ed13⟩ := gC_some ec11
    obtain ⟨r8, h6, e7, e⟩ := b2_some e
    obtain ⟨_, _, cb_c12⟩ := isD_cb ed13
    refine a_callSU (as := [.int x1]) (rest := []) C m_X5_is (by decide) im_X5_is cb_c12 sam_X5_X5_is sup_X9_X5 ml_X9_7 rfl (Nat.le_of_ble_eq_true rfl) (Nat.le_of_ble_eq_true rfl) (Nat.le_of_ble_eq_true rfl) (Nat.le_of_ble_eq_true rfl) (Nat.le_of_ble_eq_true rfl) dX9_is_7 eo9 (k_X5_is e7) rfl ?_
    show AW G lo 0 0 10 [(0, .ref (lo + x0)), (1, .int x1)] [.int r8] h6
    refine a_if_eq (tgt := 17) C dX9_is_10 (by decide) (fun c14 => ?_) (fun c14 => ?_)
    · have e := ip c14 e
      refine a_iconst (v := (0 : Int32)) C dX9_is_17 (by decide) ?_
      obtain ⟨rfl, rfl⟩ := sp2 e
      exact a_widen (Nat.le_of_ble_eq_true rfl) (Nat.le_of_ble_eq_true rfl) (a_sub [0, 1] rfl jj4)
    · have e := iN c14 e
      refine a_iconst (v := (1 : Int32)) C dX9_is_13 (by decide) ?_
      refine a_goto (tgt := 18) C dX9_is_14 (by decide) ?_
      obtain ⟨rfl, rfl⟩ := sp2 e
      exact a_widen (Nat.le_of_ble_eq_true rfl) (Nat.le_of_ble_eq_true rfl) (a_sub [0, 1] rfl jj4)

set_option maxRecDepth 100000 in
def f_X2_mark (h : Hp) (x0 : Nat) (x1 : Int32) (x2 : Nat) : Option (Int32 × Hp) := bA (isC h x2 5) fun u7 => bA (f_X6_add h x2 (20 : Int32)) fun h1 => bA (gD h1 x0 0) fun g11 => some (g11, h1)

theorem m_X2_mark : MI yX2_mark cX2_mark 3 (some .int) 2 := ⟨co_X2_mark, ini_X2, by decide, by decide +kernel⟩
set_option maxRecDepth 100000 in
set_option maxHeartbeats 4000000 in
theorem k_X2_mark {lo : Nat} {h : Hp} {x0 : Nat} {x1 : Int32} {x2 : Nat} {r : Int32} {h' : Hp} (e : f_X2_mark h x0 x1 x2 = some (r, h')) : ∀ l d, AC l d lo yX2_mark cX2_mark 3 (some .int) ({ frames := 1, cells := 0, slots := 0, locals := 21 } : Room) [.ref (lo + x0), .int x1, .ref (lo + x2)] h (some (.int r)) h' := by
  intro l d
  refine AC_of (by decide) (Nat.le_of_ble_eq_true rfl) ?_
  intro G C _ _ q
  unfold f_X2_mark at e
  show AW G lo 0 0 0 [(0, .ref (lo + x0)), (1, .int x1), (2, .ref (lo + x2))] [] h
  refine a_aload_n C dX2_mark_0 rfl 2 rfl ?_
  refine a_bipush (v := (20 : Int32)) C dX2_mark_1 (by decide) ?_
  obtain ⟨u7, ec6, e⟩ := bA_some e
  obtain ⟨fs5, eo4⟩ := isC_some ec6
  obtain ⟨h1, e2, e⟩ := bA_some e
  refine a_callV (as := [.int (20 : Int32)]) (rest := []) C m_X6_add im_X6_add cb5 se_X6_X6_add_X6_add ml_X2_39 rfl (Nat.le_of_ble_eq_true rfl) (Nat.le_of_ble_eq_true rfl) (Nat.le_of_ble_eq_true rfl) (Nat.le_of_ble_eq_true rfl) (Nat.le_of_ble_eq_true rfl) dX2_mark_3 eo4 (k_X6_add e2) rfl ?_
  show AW G lo 0 0 6 [(0, .ref (lo + x0)), (1, .int x1), (2, .ref (lo + x2))] [] h1
  refine a_aload_n C dX2_mark_6 rfl 0 rfl ?_
  obtain ⟨g11, e10, e⟩ := bA_some e
  refine a_getD C 0 (by decide) fl_X2_7 (Or.inl rfl) dX2_mark_7 e10 ?_
  obtain ⟨rfl, rfl⟩ := sp2 e
  exact a_iret C q (Nat.le_of_ble_eq_true rfl) (Nat.le_of_ble_eq_true rfl) dX2_mark_10

set_option maxRecDepth 100000 in
set_option maxHeartbeats 4000000 in
theorem kv_X2_mark {lo : Nat} {h : Hp} {x0 : Nat} {x1 : Int32} {x2 : Nat} {r : Int32} {h' : Hp} (e : f_X2_mark h x0 x1 x2 = some (r, h')) : ∀ l d, AC l d lo yX2_mark cX2_mark 3 (some .int) ({ frames := 8, cells := 0, slots := 0, locals := 300 } : Room) [.ref (lo + x0), .int x1, .ref (lo + x2)] h (some (.int r)) h' := by
  intro l d
  refine AC_of (by decide) (Nat.le_of_ble_eq_true rfl) ?_
  intro G C _ _ q
  unfold f_X2_mark at e
  show AW G lo 0 0 0 [(0, .ref (lo + x0)), (1, .int x1), (2, .ref (lo + x2))] [] h
  refine a_aload_n C dX2_mark_0 rfl 2 rfl ?_
  refine a_bipush (v := (20 : Int32)) C dX2_mark_1 (by decide) ?_
  obtain ⟨u7, ec6, e⟩ := bA_some e
  obtain ⟨fs5, eo4⟩ := isC_some ec6
  obtain ⟨h1, e2, e⟩ := bA_some e
  refine a_callV (as := [.int (20 : Int32)]) (rest := []) C m_X6_add im_X6_add cb5 se_X6_X6_add_X6_add ml_X2_39 rfl (Nat.le_of_ble_eq_true rfl) (Nat.le_of_ble_eq_true rfl) (Nat.le_of_ble_eq_true rfl) (Nat.le_of_ble_eq_true rfl) (Nat.le_of_ble_eq_true rfl) dX2_mark_3 eo4 (k_X6_add e2) rfl ?_
  show AW G lo 0 0 6 [(0, .ref (lo + x0)), (1, .int x1), (2, .ref (lo + x2))] [] h1
  refine a_aload_n C dX2_mark_6 rfl 0 rfl ?_
  obtain ⟨g11, e10, e⟩ := bA_some e
  refine a_getD C 0 (by decide) fl_X2_7 (Or.inl rfl) dX2_mark_7 e10 ?_
  obtain ⟨rfl, rfl⟩ := sp2 e
  exact a_iret C q (Nat.le_of_ble_eq_true rfl) (Nat.le_of_ble_eq_true rfl) dX2_mark_10

set_option maxRecDepth 100000 in
def f_X2_size (h : Hp) (x0 : Nat) (x1 : Int32) (x2 : Nat) : Option (Int32 × Hp) := bA (isC h x2 5) fun u7 => bA (f_X6_add h x2 (10 : Int32)) fun h1 => bA (gD h1 x0 3) fun g11 => some (g11, h1)

theorem m_X2_size : MI yX2_size cX2_size 3 (some .int) 2 := ⟨co_X2_size, ini_X2, by decide, by decide +kernel⟩
set_option maxRecDepth 100000 in
set_option maxHeartbeats 4000000 in
theorem k_X2_size {lo : Nat} {h : Hp} {x0 : Nat} {x1 : Int32} {x2 : Nat} {r : Int32} {h' : Hp} (e : f_X2_size h x0 x1 x2 = some (r, h')) : ∀ l d, AC l d lo yX2_size cX2_size 3 (some .int) ({ frames := 1, cells := 0, slots := 0, locals := 21 } : Room) [.ref (lo + x0), .int x1, .ref (lo + x2)] h (some (.int r)) h' := by
  intro l d
  refine AC_of (by decide) (Nat.le_of_ble_eq_true rfl) ?_
  intro G C _ _ q
  unfold f_X2_size at e
  show AW G lo 0 0 0 [(0, .ref (lo + x0)), (1, .int x1), (2, .ref (lo + x2))] [] h
  refine a_aload_n C dX2_size_0 rfl 2 rfl ?_
  refine a_bipush (v := (10 : Int32)) C dX2_size_1 (by decide) ?_
  obtain ⟨u7, ec6, e⟩ := bA_some e
  obtain ⟨fs5, eo4⟩ := isC_some ec6
  obtain ⟨h1, e2, e⟩ := bA_some e
  refine a_callV (as := [.int (10 : Int32)]) (rest := []) C m_X6_add im_X6_add cb5 se_X6_X6_add_X6_add ml_X2_39 rfl (Nat.le_of_ble_eq_true rfl) (Nat.le_of_ble_eq_true rfl) (Nat.le_of_ble_eq_true rfl) (Nat.le_of_ble_eq_true rfl) (Nat.le_of_ble_eq_true rfl) dX2_size_3 eo4 (k_X6_add e2) rfl ?_
  show AW G lo 0 0 6 [(0, .ref (lo + x0)), (1, .int x1), (2, .ref (lo + x2))] [] h1
  refine a_aload_n C dX2_size_6 rfl 0 rfl ?_
  obtain ⟨g11, e10, e⟩ := bA_some e
  refine a_getD C 3 (by decide) fl_X2_19 (Or.inl rfl) dX2_size_7 e10 ?_
  obtain ⟨rfl, rfl⟩ := sp2 e
  exact a_iret C q (Nat.le_of_ble_eq_true rfl) (Nat.le_of_ble_eq_true rfl) dX2_size_10

set_option maxRecDepth 100000 in
set_option maxHeartbeats 4000000 in
theorem kv_X2_size {lo : Nat} {h : Hp} {x0 : Nat} {x1 : Int32} {x2 : Nat} {r : Int32} {h' : Hp} (e : f_X2_size h x0 x1 x2 = some (r, h')) : ∀ l d, AC l d lo yX2_size cX2_size 3 (some .int) ({ frames := 8, cells := 0, slots := 0, locals := 300 } : Room) [.ref (lo + x0), .int x1, .ref (lo + x2)] h (some (.int r)) h' := by
  intro l d
  refine AC_of (by decide) (Nat.le_of_ble_eq_true rfl) ?_
  intro G C _ _ q
  unfold f_X2_size at e
  show AW G lo 0 0 0 [(0, .ref (lo + x0)), (1, .int x1), (2, .ref (lo + x2))] [] h
  refine a_aload_n C dX2_size_0 rfl 2 rfl ?_
  refine a_bipush (v := (10 : Int32)) C dX2_size_1 (by decide) ?_
  obtain ⟨u7, ec6, e⟩ := bA_some e
  obtain ⟨fs5, eo4⟩ := isC_some ec6
  obtain ⟨h1, e2, e⟩ := bA_some e
  refine a_callV (as := [.int (10 : Int32)]) (rest := []) C m_X6_add im_X6_add cb5 se_X6_X6_add_X6_add ml_X2_39 rfl (Nat.le_of_ble_eq_true rfl) (Nat.le_of_ble_eq_true rfl) (Nat.le_of_ble_eq_true rfl) (Nat.le_of_ble_eq_true rfl) (Nat.le_of_ble_eq_true rfl) dX2_size_3 eo4 (k_X6_add e2) rfl ?_
  show AW G lo 0 0 6 [(0, .ref (lo + x0)), (1, .int x1), (2, .ref (lo + x2))] [] h1
  refine a_aload_n C dX2_size_6 rfl 0 rfl ?_
  obtain ⟨g11, e10, e⟩ := bA_some e
  refine a_getD C 3 (by decide) fl_X2_19 (Or.inl rfl) dX2_size_7 e10 ?_
  obtain ⟨rfl, rfl⟩ := sp2 e
  exact a_iret C q (Nat.le_of_ble_eq_true rfl) (Nat.le_of_ble_eq_true rfl) dX2_size_10

set_option maxRecDepth 100000 in
def f_X4_mark (h : Hp) (x0 : Nat) (x1 : Int32) (x2 : Nat) : Option (Int32 × Hp) := bA (isC h x2 5) fun u7 => bA (f_X6_add h x2 (21 : Int32)) fun h1 => bA (gC h1 x0) fun c16 => b2 (f_X2_mark h1 x0 x1 x2) fun r12 h10 => some ((r12 + x1), h10)

theorem m_X4_mark : MI yX4_mark cX4_mark 3 (some .int) 2 := ⟨co_X4_mark, ini_X4, by decide, by decide +kernel⟩
set_option maxRecDepth 100000 in
set_option maxHeartbeats 4000000 in
theorem k_X4_mark {lo : Nat} {h : Hp} {x0 : Nat} {x1 : Int32} {x2 : Nat} {r : Int32} {h' : Hp} (e : f_X4_mark h x0 x1 x2 = some (r, h')) : ∀ l d, AC l d lo yX4_mark cX4_mark 3 (some .int) ({ frames := 2, cells := 0, slots := 0, locals := 43 } : Room) [.ref (lo + x0), .int x1, .ref (lo + x2)] h (some (.int r)) h' := by
  intro l d
  refine AC_of (by decide) (Nat.le_of_ble_eq_true rfl) ?_
  intro G C _ _ q
  unfold f_X4_mark at e
  show AW G lo 0 0 0 [(0, .ref (lo + x0)), (1, .int x1), (2, .ref (lo + x2))] [] h
  refine a_aload_n C dX4_mark_0 rfl 2 rfl ?_
  refine a_bipush (v := (21 : Int32)) C dX4_mark_1 (by decide) ?_
  obtain ⟨u7, ec6, e⟩ := bA_some e
  obtain ⟨fs5, eo4⟩ := isC_some ec6
  obtain ⟨h1, e2, e⟩ := bA_some e
  refine a_callV (as := [.int (21 : Int32)]) (rest := []) C m_X6_add im_X6_add cb5 se_X6_X6_add_X6_add ml_X4_17 rfl (Nat.le_of_ble_eq_true rfl) (Nat.le_of_ble_eq_true rfl) (Nat.le_of_ble_eq_true rfl) (Nat.le_of_ble_eq_true rfl) (Nat.le_of_ble_eq_true rfl) dX4_mark_3 eo4 (k_X6_add e2) rfl ?_
  show AW G lo 0 0 6 [(0, .ref (lo + x0)), (1, .int x1), (2, .ref (lo + x2))] [] h1
  refine a_aload_n C dX4_mark_6 rfl 0 rfl ?_
  refine a_iload_n C dX4_mark_7 rfl 1 rfl ?_
  refine a_aload_n C dX4_mark_8 rfl 2 rfl ?_
  obtain ⟨c16, ec15, e⟩ := bA_some e
  obtain ⟨fs14, eo13, ed17⟩ := gC_some ec15
  obtain ⟨r12, h10, e11, e⟩ := b2_some e
  obtain ⟨_, _, cb_c16⟩ := isD_cb ed17
  refine a_callSU (as := [.int x1, .ref (lo + x2)]) (rest := []) C m_X2_mark (by decide) im_X2_mark cb_c16 sam_X2_X2_mark sup_X4_X2 ml_X4_30 rfl (Nat.le_of_ble_eq_true rfl) (Nat.le_of_ble_eq_true rfl) (Nat.le_of_ble_eq_true rfl) (Nat.le_of_ble_eq_true rfl) (Nat.le_of_ble_eq_true rfl) dX4_mark_9 eo13 (k_X2_mark e11) rfl ?_
  show AW G lo 0 0 12 [(0, .ref (lo + x0)), (1, .int x1), (2, .ref (lo + x2))] [.int r12] h10
  refine a_iload_n C dX4_mark_12 rfl 1 rfl ?_
  refine a_iadd C dX4_mark_13 ?_
  obtain ⟨rfl, rfl⟩ := sp2 e
  exact a_iret C q (Nat.le_of_ble_eq_true rfl) (Nat.le_of_ble_eq_true rfl) dX4_mark_14

set_option maxRecDepth 100000 in
set_option maxHeartbeats 4000000 in
theorem kv_X4_mark {lo : Nat} {h : Hp} {x0 : Nat} {x1 : Int32} {x2 : Nat} {r : Int32} {h' : Hp} (e : f_X4_mark h x0 x1 x2 = some (r, h')) : ∀ l d, AC l d lo yX4_mark cX4_mark 3 (some .int) ({ frames := 8, cells := 0, slots := 0, locals := 300 } : Room) [.ref (lo + x0), .int x1, .ref (lo + x2)] h (some (.int r)) h' := by
  intro l d
  refine AC_of (by decide) (Nat.le_of_ble_eq_true rfl) ?_
  intro G C _ _ q
  unfold f_X4_mark at e
  show AW G lo 0 0 0 [(0, .ref (lo + x0)), (1, .int x1), (2, .ref (lo + x2))] [] h
  refine a_aload_n C dX4_mark_0 rfl 2 rfl ?_
  refine a_bipush (v := (21 : Int32)) C dX4_mark_1 (by decide) ?_
  obtain ⟨u7, ec6, e⟩ := bA_some e
  obtain ⟨fs5, eo4⟩ := isC_some ec6
  obtain ⟨h1, e2, e⟩ := bA_some e
  refine a_callV (as := [.int (21 : Int32)]) (rest := []) C m_X6_add im_X6_add cb5 se_X6_X6_add_X6_add ml_X4_17 rfl (Nat.le_of_ble_eq_true rfl) (Nat.le_of_ble_eq_true rfl) (Nat.le_of_ble_eq_true rfl) (Nat.le_of_ble_eq_true rfl) (Nat.le_of_ble_eq_true rfl) dX4_mark_3 eo4 (k_X6_add e2) rfl ?_
  show AW G lo 0 0 6 [(0, .ref (lo + x0)), (1, .int x1), (2, .ref (lo + x2))] [] h1
  refine a_aload_n C dX4_mark_6 rfl 0 rfl ?_
  refine a_iload_n C dX4_mark_7 rfl 1 rfl ?_
  refine a_aload_n C dX4_mark_8 rfl 2 rfl ?_
  obtain ⟨c16, ec15, e⟩ := bA_some e
  obtain ⟨fs14, eo13, ed17⟩ := gC_some ec15
  obtain ⟨r12, h10, e11, e⟩ := b2_some e
  obtain ⟨_, _, cb_c16⟩ := isD_cb ed17
  refine a_callSU (as := [.int x1, .ref (lo + x2)]) (rest := []) C m_X2_mark (by decide) im_X2_mark cb_c16 sam_X2_X2_mark sup_X4_X2 ml_X4_30 rfl (Nat.le_of_ble_eq_true rfl) (Nat.le_of_ble_eq_true rfl) (Nat.le_of_ble_eq_true rfl) (Nat.le_of_ble_eq_true rfl) (Nat.le_of_ble_eq_true rfl) dX4_mark_9 eo13 (k_X2_mark e11) rfl ?_
  show AW G lo 0 0 12 [(0, .ref (lo + x0)), (1, .int x1), (2, .ref (lo + x2))] [.int r12] h10
  refine a_iload_n C dX4_mark_12 rfl 1 rfl ?_
  refine a_iadd C dX4_mark_13 ?_
  obtain ⟨rfl, rfl⟩ := sp2 e
  exact a_iret C q (Nat.le_of_ble_eq_true rfl) (Nat.le_of_ble_eq_true rfl) dX4_mark_14

set_option maxRecDepth 100000 in
set_option maxHeartbeats 4000000 in
theorem kw_X4_mark {lo : Nat} {h : Hp} {x0 : Nat} {x1 : Int32} {x2 : Nat} {r : Int32} {h' : Hp} (e : f_X4_mark h x0 x1 x2 = some (r, h')) : ∀ l d, AC l d lo yX4_mark cX4_mark 3 (some .int) ({ frames := 4, cells := 0, slots := 0, locals := 100 } : Room) [.ref (lo + x0), .int x1, .ref (lo + x2)] h (some (.int r)) h' := by
  intro l d
  refine AC_of (by decide) (Nat.le_of_ble_eq_true rfl) ?_
  intro G C _ _ q
  unfold f_X4_mark at e
  show AW G lo 0 0 0 [(0, .ref (lo + x0)), (1, .int x1), (2, .ref (lo + x2))] [] h
  refine a_aload_n C dX4_mark_0 rfl 2 rfl ?_
  refine a_bipush (v := (21 : Int32)) C dX4_mark_1 (by decide) ?_
  obtain ⟨u7, ec6, e⟩ := bA_some e
  obtain ⟨fs5, eo4⟩ := isC_some ec6
  obtain ⟨h1, e2, e⟩ := bA_some e
  refine a_callV (as := [.int (21 : Int32)]) (rest := []) C m_X6_add im_X6_add cb5 se_X6_X6_add_X6_add ml_X4_17 rfl (Nat.le_of_ble_eq_true rfl) (Nat.le_of_ble_eq_true rfl) (Nat.le_of_ble_eq_true rfl) (Nat.le_of_ble_eq_true rfl) (Nat.le_of_ble_eq_true rfl) dX4_mark_3 eo4 (k_X6_add e2) rfl ?_
  show AW G lo 0 0 6 [(0, .ref (lo + x0)), (1, .int x1), (2, .ref (lo + x2))] [] h1
  refine a_aload_n C dX4_mark_6 rfl 0 rfl ?_
  refine a_iload_n C dX4_mark_7 rfl 1 rfl ?_
  refine a_aload_n C dX4_mark_8 rfl 2 rfl ?_
  obtain ⟨c16, ec15, e⟩ := bA_some e
  obtain ⟨fs14, eo13, ed17⟩ := gC_some ec15
  obtain ⟨r12, h10, e11, e⟩ := b2_some e
  obtain ⟨_, _, cb_c16⟩ := isD_cb ed17
  refine a_callSU (as := [.int x1, .ref (lo + x2)]) (rest := []) C m_X2_mark (by decide) im_X2_mark cb_c16 sam_X2_X2_mark sup_X4_X2 ml_X4_30 rfl (Nat.le_of_ble_eq_true rfl) (Nat.le_of_ble_eq_true rfl) (Nat.le_of_ble_eq_true rfl) (Nat.le_of_ble_eq_true rfl) (Nat.le_of_ble_eq_true rfl) dX4_mark_9 eo13 (k_X2_mark e11) rfl ?_
  show AW G lo 0 0 12 [(0, .ref (lo + x0)), (1, .int x1), (2, .ref (lo + x2))] [.int r12] h10
  refine a_iload_n C dX4_mark_12 rfl 1 rfl ?_
  refine a_iadd C dX4_mark_13 ?_
  obtain ⟨rfl, rfl⟩ := sp2 e
  exact a_iret C q (Nat.le_of_ble_eq_true rfl) (Nat.le_of_ble_eq_true rfl) dX4_mark_14

set_option maxRecDepth 100000 in
def f_X0_mark (h : Hp) (x0 : Nat) (x1 : Int32) (x2 : Nat) : Option (Int32 × Hp) := bA (isC h x2 5) fun u7 => bA (f_X6_add h x2 (24 : Int32)) fun h1 => bA (gC h1 x0) fun c16 => b2 (f_X4_mark h1 x0 x1 x2) fun r12 h10 => some (((2 : Int32) * r12), h10)

theorem m_X0_mark : MI yX0_mark cX0_mark 3 (some .int) 2 := ⟨co_X0_mark, ini_X0, by decide, by decide +kernel⟩
set_option maxRecDepth 100000 in
set_option maxHeartbeats 4000000 in
theorem k_X0_mark {lo : Nat} {h : Hp} {x0 : Nat} {x1 : Int32} {x2 : Nat} {r : Int32} {h' : Hp} (e : f_X0_mark h x0 x1 x2 = some (r, h')) : ∀ l d, AC l d lo yX0_mark cX0_mark 3 (some .int) ({ frames := 3, cells := 0, slots := 0, locals := 65 } : Room) [.ref (lo + x0), .int x1, .ref (lo + x2)] h (some (.int r)) h' := by
  intro l d
  refine AC_of (by decide) (Nat.le_of_ble_eq_true rfl) ?_
  intro G C _ _ q
  unfold f_X0_mark at e
  show AW G lo 0 0 0 [(0, .ref (lo + x0)), (1, .int x1), (2, .ref (lo + x2))] [] h
  refine a_aload_n C dX0_mark_0 rfl 2 rfl ?_
  refine a_bipush (v := (24 : Int32)) C dX0_mark_1 (by decide) ?_
  obtain ⟨u7, ec6, e⟩ := bA_some e
  obtain ⟨fs5, eo4⟩ := isC_some ec6
  obtain ⟨h1, e2, e⟩ := bA_some e
  refine a_callV (as := [.int (24 : Int32)]) (rest := []) C m_X6_add im_X6_add cb5 se_X6_X6_add_X6_add ml_X0_17 rfl (Nat.le_of_ble_eq_true rfl) (Nat.le_of_ble_eq_true rfl) (Nat.le_of_ble_eq_true rfl) (Nat.le_of_ble_eq_true rfl) (Nat.le_of_ble_eq_true rfl) dX0_mark_3 eo4 (k_X6_add e2) rfl ?_
  show AW G lo 0 0 6 [(0, .ref (lo + x0)), (1, .int x1), (2, .ref (lo + x2))] [] h1
  refine a_iconst (v := (2 : Int32)) C dX0_mark_6 (by decide) ?_
  refine a_aload_n C dX0_mark_7 rfl 0 rfl ?_
  refine a_iload_n C dX0_mark_8 rfl 1 rfl ?_
  refine a_aload_n C dX0_mark_9 rfl 2 rfl ?_
  obtain ⟨c16, ec15, e⟩ := bA_some e
  obtain ⟨fs14, eo13, ed17⟩ := gC_some ec15
  obtain ⟨r12, h10, e11, e⟩ := b2_some e
  obtain ⟨_, _, cb_c16⟩ := isD_cb ed17
  refine a_callSU (as := [.int x1, .ref (lo + x2)]) (rest := [.int (2 : Int32)]) C m_X4_mark (by decide) im_X4_mark cb_c16 sam_X4_X4_mark sup_X0_X4 ml_X0_27 rfl (Nat.le_of_ble_eq_true rfl) (Nat.le_of_ble_eq_true rfl) (Nat.le_of_ble_eq_true rfl) (Nat.le_of_ble_eq_true rfl) (Nat.le_of_ble_eq_true rfl) dX0_mark_10 eo13 (k_X4_mark e11) rfl ?_
  show AW G lo 0 0 13 [(0, .ref (lo + x0)), (1, .int x1), (2, .ref (lo + x2))] [.int r12, .int (2 : Int32)] h10
  refine a_imul C dX0_mark_13 ?_
  obtain ⟨rfl, rfl⟩ := sp2 e
  exact a_iret C q (Nat.le_of_ble_eq_true rfl) (Nat.le_of_ble_eq_true rfl) dX0_mark_14

set_option maxRecDepth 100000 in
set_option maxHeartbeats 4000000 in
theorem kv_X0_mark {lo : Nat} {h : Hp} {x0 : Nat} {x1 : Int32} {x2 : Nat} {r : Int32} {h' : Hp} (e : f_X0_mark h x0 x1 x2 = some (r, h')) : ∀ l d, AC l d lo yX0_mark cX0_mark 3 (some .int) ({ frames := 8, cells := 0, slots := 0, locals := 300 } : Room) [.ref (lo + x0), .int x1, .ref (lo + x2)] h (some (.int r)) h' := by
  intro l d
  refine AC_of (by decide) (Nat.le_of_ble_eq_true rfl) ?_
  intro G C _ _ q
  unfold f_X0_mark at e
  show AW G lo 0 0 0 [(0, .ref (lo + x0)), (1, .int x1), (2, .ref (lo + x2))] [] h
  refine a_aload_n C dX0_mark_0 rfl 2 rfl ?_
  refine a_bipush (v := (24 : Int32)) C dX0_mark_1 (by decide) ?_
  obtain ⟨u7, ec6, e⟩ := bA_some e
  obtain ⟨fs5, eo4⟩ := isC_some ec6
  obtain ⟨h1, e2, e⟩ := bA_some e
  refine a_callV (as := [.int (24 : Int32)]) (rest := []) C m_X6_add im_X6_add cb5 se_X6_X6_add_X6_add ml_X0_17 rfl (Nat.le_of_ble_eq_true rfl) (Nat.le_of_ble_eq_true rfl) (Nat.le_of_ble_eq_true rfl) (Nat.le_of_ble_eq_true rfl) (Nat.le_of_ble_eq_true rfl) dX0_mark_3 eo4 (k_X6_add e2) rfl ?_
  show AW G lo 0 0 6 [(0, .ref (lo + x0)), (1, .int x1), (2, .ref (lo + x2))] [] h1
  refine a_iconst (v := (2 : Int32)) C dX0_mark_6 (by decide) ?_
  refine a_aload_n C dX0_mark_7 rfl 0 rfl ?_
  refine a_iload_n C dX0_mark_8 rfl 1 rfl ?_
  refine a_aload_n C dX0_mark_9 rfl 2 rfl ?_
  obtain ⟨c16, ec15, e⟩ := bA_some e
  obtain ⟨fs14, eo13, ed17⟩ := gC_some ec15
  obtain ⟨r12, h10, e11, e⟩ := b2_some e
  obtain ⟨_, _, cb_c16⟩ := isD_cb ed17
  refine a_callSU (as := [.int x1, .ref (lo + x2)]) (rest := [.int (2 : Int32)]) C m_X4_mark (by decide) im_X4_mark cb_c16 sam_X4_X4_mark sup_X0_X4 ml_X0_27 rfl (Nat.le_of_ble_eq_true rfl) (Nat.le_of_ble_eq_true rfl) (Nat.le_of_ble_eq_true rfl) (Nat.le_of_ble_eq_true rfl) (Nat.le_of_ble_eq_true rfl) dX0_mark_10 eo13 (k_X4_mark e11) rfl ?_
  show AW G lo 0 0 13 [(0, .ref (lo + x0)), (1, .int x1), (2, .ref (lo + x2))] [.int r12, .int (2 : Int32)] h10
  refine a_imul C dX0_mark_13 ?_
  obtain ⟨rfl, rfl⟩ := sp2 e
  exact a_iret C q (Nat.le_of_ble_eq_true rfl) (Nat.le_of_ble_eq_true rfl) dX0_mark_14

set_option maxRecDepth 100000 in
set_option maxHeartbeats 4000000 in
theorem kw_X0_mark {lo : Nat} {h : Hp} {x0 : Nat} {x1 : Int32} {x2 : Nat} {r : Int32} {h' : Hp} (e : f_X0_mark h x0 x1 x2 = some (r, h')) : ∀ l d, AC l d lo yX0_mark cX0_mark 3 (some .int) ({ frames := 4, cells := 0, slots := 0, locals := 100 } : Room) [.ref (lo + x0), .int x1, .ref (lo + x2)] h (some (.int r)) h' := by
  intro l d
  refine AC_of (by decide) (Nat.le_of_ble_eq_true rfl) ?_
  intro G C _ _ q
  unfold f_X0_mark at e
  show AW G lo 0 0 0 [(0, .ref (lo + x0)), (1, .int x1), (2, .ref (lo + x2))] [] h
  refine a_aload_n C dX0_mark_0 rfl 2 rfl ?_
  refine a_bipush (v := (24 : Int32)) C dX0_mark_1 (by decide) ?_
  obtain ⟨u7, ec6, e⟩ := bA_some e
  obtain ⟨fs5, eo4⟩ := isC_some ec6
  obtain ⟨h1, e2, e⟩ := bA_some e
  refine a_callV (as := [.int (24 : Int32)]) (rest := []) C m_X6_add im_X6_add cb5 se_X6_X6_add_X6_add ml_X0_17 rfl (Nat.le_of_ble_eq_true rfl) (Nat.le_of_ble_eq_true rfl) (Nat.le_of_ble_eq_true rfl) (Nat.le_of_ble_eq_true rfl) (Nat.le_of_ble_eq_true rfl) dX0_mark_3 eo4 (k_X6_add e2) rfl ?_
  show AW G lo 0 0 6 [(0, .ref (lo + x0)), (1, .int x1), (2, .ref (lo + x2))] [] h1
  refine a_iconst (v := (2 : Int32)) C dX0_mark_6 (by decide) ?_
  refine a_aload_n C dX0_mark_7 rfl 0 rfl ?_
  refine a_iload_n C dX0_mark_8 rfl 1 rfl ?_
  refine a_aload_n C dX0_mark_9 rfl 2 rfl ?_
  obtain ⟨c16, ec15, e⟩ := bA_some e
  obtain ⟨fs14, eo13, ed17⟩ := gC_some ec15
  obtain ⟨r12, h10, e11, e⟩ := b2_some e
  obtain ⟨_, _, cb_c16⟩ := isD_cb ed17
  refine a_callSU (as := [.int x1, .ref (lo + x2)]) (rest := [.int (2 : Int32)]) C m_X4_mark (by decide) im_X4_mark cb_c16 sam_X4_X4_mark sup_X0_X4 ml_X0_27 rfl (Nat.le_of_ble_eq_true rfl) (Nat.le_of_ble_eq_true rfl) (Nat.le_of_ble_eq_true rfl) (Nat.le_of_ble_eq_true rfl) (Nat.le_of_ble_eq_true rfl) dX0_mark_10 eo13 (k_X4_mark e11) rfl ?_
  show AW G lo 0 0 13 [(0, .ref (lo + x0)), (1, .int x1), (2, .ref (lo + x2))] [.int r12, .int (2 : Int32)] h10
  refine a_imul C dX0_mark_13 ?_
  obtain ⟨rfl, rfl⟩ := sp2 e
  exact a_iret C q (Nat.le_of_ble_eq_true rfl) (Nat.le_of_ble_eq_true rfl) dX0_mark_14

set_option maxRecDepth 100000 in
def f_X1_mark (h : Hp) (x0 : Nat) (x1 : Int32) (x2 : Nat) : Option (Int32 × Hp) := bA (isC h x2 5) fun u7 => bA (f_X6_add h x2 (22 : Int32)) fun h1 => bA (gC h1 x0) fun c16 => b2 (f_X4_mark h1 x0 x1 x2) fun r12 h10 => some ((r12 - (1000 : Int32)), h10)

theorem m_X1_mark : MI yX1_mark cX1_mark 3 (some .int) 2 := ⟨co_X1_mark, ini_X1, by decide, by decide +kernel⟩
set_option maxRecDepth 100000 in
set_option maxHeartbeats 4000000 in
theorem k_X1_mark {lo : Nat} {h : Hp} {x0 : Nat} {x1 : Int32} {x2 : Nat} {r : Int32} {h' : Hp} (e : f_X1_mark h x0 x1 x2 = some (r, h')) : ∀ l d, AC l d lo yX1_mark cX1_mark 3 (some .int) ({ frames := 3, cells := 0, slots := 0, locals := 65 } : Room) [.ref (lo + x0), .int x1, .ref (lo + x2)] h (some (.int r)) h' := by
  intro l d
  refine AC_of (by decide) (Nat.le_of_ble_eq_true rfl) ?_
  intro G C _ _ q
  unfold f_X1_mark at e
  show AW G lo 0 0 0 [(0, .ref (lo + x0)), (1, .int x1), (2, .ref (lo + x2))] [] h
  refine a_aload_n C dX1_mark_0 rfl 2 rfl ?_
  refine a_bipush (v := (22 : Int32)) C dX1_mark_1 (by decide) ?_
  obtain ⟨u7, ec6, e⟩ := bA_some e
  obtain ⟨fs5, eo4⟩ := isC_some ec6
  obtain ⟨h1, e2, e⟩ := bA_some e
  refine a_callV (as := [.int (22 : Int32)]) (rest := []) C m_X6_add im_X6_add cb5 se_X6_X6_add_X6_add ml_X1_17 rfl (Nat.le_of_ble_eq_true rfl) (Nat.le_of_ble_eq_true rfl) (Nat.le_of_ble_eq_true rfl) (Nat.le_of_ble_eq_true rfl) (Nat.le_of_ble_eq_true rfl) dX1_mark_3 eo4 (k_X6_add e2) rfl ?_
  show AW G lo 0 0 6 [(0, .ref (lo + x0)), (1, .int x1), (2, .ref (lo + x2))] [] h1
  refine a_aload_n C dX1_mark_6 rfl 0 rfl ?_
  refine a_iload_n C dX1_mark_7 rfl 1 rfl ?_
  refine a_aload_n C dX1_mark_8 rfl 2 rfl ?_
  obtain ⟨c16, ec15, e⟩ := bA_some e
  obtain ⟨fs14, eo13, ed17⟩ := gC_some ec15
  obtain ⟨r12, h10, e11, e⟩ := b2_some e
  obtain ⟨_, _, cb_c16⟩ := isD_cb ed17
  refine a_callSU (as := [.int x1, .ref (lo + x2)]) (rest := []) C m_X4_mark (by decide) im_X4_mark cb_c16 sam_X4_X4_mark sup_X1_X4 ml_X1_23 rfl (Nat.le_of_ble_eq_true rfl) (Nat.le_of_ble_eq_true rfl) (Nat.le_of_ble_eq_true rfl) (Nat.le_of_ble_eq_true rfl) (Nat.le_of_ble_eq_true rfl) dX1_mark_9 eo13 (k_X4_mark e11) rfl ?_
  show AW G lo 0 0 12 [(0, .ref (lo + x0)), (1, .int x1), (2, .ref (lo + x2))] [.int r12] h10
  refine a_sipush (v := (1000 : Int32)) C dX1_mark_12 (by decide) ?_
  refine a_isub C dX1_mark_15 ?_
  obtain ⟨rfl, rfl⟩ := sp2 e
  exact a_iret C q (Nat.le_of_ble_eq_true rfl) (Nat.le_of_ble_eq_true rfl) dX1_mark_16

set_option maxRecDepth 100000 in
set_option maxHeartbeats 4000000 in
theorem kv_X1_mark {lo : Nat} {h : Hp} {x0 : Nat} {x1 : Int32} {x2 : Nat} {r : Int32} {h' : Hp} (e : f_X1_mark h x0 x1 x2 = some (r, h')) : ∀ l d, AC l d lo yX1_mark cX1_mark 3 (some .int) ({ frames := 8, cells := 0, slots := 0, locals := 300 } : Room) [.ref (lo + x0), .int x1, .ref (lo + x2)] h (some (.int r)) h' := by
  intro l d
  refine AC_of (by decide) (Nat.le_of_ble_eq_true rfl) ?_
  intro G C _ _ q
  unfold f_X1_mark at e
  show AW G lo 0 0 0 [(0, .ref (lo + x0)), (1, .int x1), (2, .ref (lo + x2))] [] h
  refine a_aload_n C dX1_mark_0 rfl 2 rfl ?_
  refine a_bipush (v := (22 : Int32)) C dX1_mark_1 (by decide) ?_
  obtain ⟨u7, ec6, e⟩ := bA_some e
  obtain ⟨fs5, eo4⟩ := isC_some ec6
  obtain ⟨h1, e2, e⟩ := bA_some e
  refine a_callV (as := [.int (22 : Int32)]) (rest := []) C m_X6_add im_X6_add cb5 se_X6_X6_add_X6_add ml_X1_17 rfl (Nat.le_of_ble_eq_true rfl) (Nat.le_of_ble_eq_true rfl) (Nat.le_of_ble_eq_true rfl) (Nat.le_of_ble_eq_true rfl) (Nat.le_of_ble_eq_true rfl) dX1_mark_3 eo4 (k_X6_add e2) rfl ?_
  show AW G lo 0 0 6 [(0, .ref (lo + x0)), (1, .int x1), (2, .ref (lo + x2))] [] h1
  refine a_aload_n C dX1_mark_6 rfl 0 rfl ?_
  refine a_iload_n C dX1_mark_7 rfl 1 rfl ?_
  refine a_aload_n C dX1_mark_8 rfl 2 rfl ?_
  obtain ⟨c16, ec15, e⟩ := bA_some e
  obtain ⟨fs14, eo13, ed17⟩ := gC_some ec15
  obtain ⟨r12, h10, e11, e⟩ := b2_some e
  obtain ⟨_, _, cb_c16⟩ := isD_cb ed17
  refine a_callSU (as := [.int x1, .ref (lo + x2)]) (rest := []) C m_X4_mark (by decide) im_X4_mark cb_c16 sam_X4_X4_mark sup_X1_X4 ml_X1_23 rfl (Nat.le_of_ble_eq_true rfl) (Nat.le_of_ble_eq_true rfl) (Nat.le_of_ble_eq_true rfl) (Nat.le_of_ble_eq_true rfl) (Nat.le_of_ble_eq_true rfl) dX1_mark_9 eo13 (k_X4_mark e11) rfl ?_
  show AW G lo 0 0 12 [(0, .ref (lo + x0)), (1, .int x1), (2, .ref (lo + x2))] [.int r12] h10
  refine a_sipush (v := (1000 : Int32)) C dX1_mark_12 (by decide) ?_
  refine a_isub C dX1_mark_15 ?_
  obtain ⟨rfl, rfl⟩ := sp2 e
  exact a_iret C q (Nat.le_of_ble_eq_true rfl) (Nat.le_of_ble_eq_true rfl) dX1_mark_16

set_option maxRecDepth 100000 in
set_option maxHeartbeats 4000000 in
theorem kw_X1_mark {lo : Nat} {h : Hp} {x0 : Nat} {x1 : Int32} {x2 : Nat} {r : Int32} {h' : Hp} (e : f_X1_mark h x0 x1 x2 = some (r, h')) : ∀ l d, AC l d lo yX1_mark cX1_mark 3 (some .int) ({ frames := 4, cells := 0, slots := 0, locals := 100 } : Room) [.ref (lo + x0), .int x1, .ref (lo + x2)] h (some (.int r)) h' := by
  intro l d
  refine AC_of (by decide) (Nat.le_of_ble_eq_true rfl) ?_
  intro G C _ _ q
  unfold f_X1_mark at e
  show AW G lo 0 0 0 [(0, .ref (lo + x0)), (1, .int x1), (2, .ref (lo + x2))] [] h
  refine a_aload_n C dX1_mark_0 rfl 2 rfl ?_
  refine a_bipush (v := (22 : Int32)) C dX1_mark_1 (by decide) ?_
  obtain ⟨u7, ec6, e⟩ := bA_some e
  obtain ⟨fs5, eo4⟩ := isC_some ec6
  obtain ⟨h1, e2, e⟩ := bA_some e
  refine a_callV (as := [.int (22 : Int32)]) (rest := []) C m_X6_add im_X6_add cb5 se_X6_X6_add_X6_add ml_X1_17 rfl (Nat.le_of_ble_eq_true rfl) (Nat.le_of_ble_eq_true rfl) (Nat.le_of_ble_eq_true rfl) (Nat.le_of_ble_eq_true rfl) (Nat.le_of_ble_eq_true rfl) dX1_mark_3 eo4 (k_X6_add e2) rfl ?_
  show AW G lo 0 0 6 [(0, .ref (lo + x0)), (1, .int x1), (2, .ref (lo + x2))] [] h1
  refine a_aload_n C dX1_mark_6 rfl 0 rfl ?_
  refine a_iload_n C dX1_mark_7 rfl 1 rfl ?_
  refine a_aload_n C dX1_mark_8 rfl 2 rfl ?_
  obtain ⟨c16, ec15, e⟩ := bA_some e
  obtain ⟨fs14, eo13, ed17⟩ := gC_some ec15
  obtain ⟨r12, h10, e11, e⟩ := b2_some e
  obtain ⟨_, _, cb_c16⟩ := isD_cb ed17
  refine a_callSU (as := [.int x1, .ref (lo + x2)]) (rest := []) C m_X4_mark (by decide) im_X4_mark cb_c16 sam_X4_X4_mark sup_X1_X4 ml_X1_23 rfl (Nat.le_of_ble_eq_true rfl) (Nat.le_of_ble_eq_true rfl) (Nat.le_of_ble_eq_true rfl) (Nat.le_of_ble_eq_true rfl) (Nat.le_of_ble_eq_true rfl) dX1_mark_9 eo13 (k_X4_mark e11) rfl ?_
  show AW G lo 0 0 12 [(0, .ref (lo + x0)), (1, .int x1), (2, .ref (lo + x2))] [.int r12] h10
  refine a_sipush (v := (1000 : Int32)) C dX1_mark_12 (by decide) ?_
  refine a_isub C dX1_mark_15 ?_
  obtain ⟨rfl, rfl⟩ := sp2 e
  exact a_iret C q (Nat.le_of_ble_eq_true rfl) (Nat.le_of_ble_eq_true rfl) dX1_mark_16

def v_X4_mark (c : Nat) (h : Hp) (x0 : Nat) (x1 : Int32) (x2 : Nat) : Option (Int32 × Hp) :=
  if c = 0 then f_X0_mark h x0 x1 x2 else if c = 1 then f_X1_mark h x0 x1 x2 else if c = 3 then f_X4_mark h x0 x1 x2 else none
theorem vd_X4_mark {c lo : Nat} {h : Hp} {x0 : Nat} {x1 : Int32} {x2 : Nat} {r : Int32} {h2 : Hp} (e : v_X4_mark c h x0 x1 x2 = some (r, h2)) : VD yX4_mark c lo ({ frames := 4, cells := 0, slots := 0, locals := 100 } : Room) [.int x1, .ref (lo + x2)] h x0 (some (.int r)) h2 := by
  unfold v_X4_mark at e
  by_cases q0 : c = 0
  · have e := ip q0 e
    subst q0
    exact ⟨_, _, _, _, _, _, _, _, _, cb0, m_X0_mark, im_X0_mark, se_X0_X4_mark_X0_mark, rfl, rfl, by decide, kw_X0_mark e⟩
  have e := iN q0 e
  by_cases q1 : c = 1
  · have e := ip q1 e
    subst q1
    exact ⟨_, _, _, _, _, _, _, _, _, cb1, m_X1_mark, im_X1_mark, se_X1_X4_mark_X1_mark, rfl, rfl, by decide, kw_X1_mark e⟩
  have e := iN q1 e
  by_cases q3 : c = 3
  · have e := ip q3 e
    subst q3
    exact ⟨_, _, _, _, _, _, _, _, _, cb3, m_X4_mark, im_X4_mark, se_X4_X4_mark_X4_mark, rfl, rfl, by decide, kw_X4_mark e⟩
  have e := iN q3 e
  cases e
theorem du_X4_mark : DU yX4_mark := Or.inr ⟨im_X4_mark, _, _, _, co_X4_mark⟩

set_option maxRecDepth 100000 in
def f_X4_size (h : Hp) (x0 : Nat) (x1 : Int32) (x2 : Nat) : Option (Int32 × Hp) := bA (isC h x2 5) fun u7 => bA (f_X6_add h x2 (11 : Int32)) fun h1 => bA (gC h1 x0) fun c16 => b2 (f_X2_size h1 x0 x1 x2) fun r12 h10 => bA (gC h10 x0) fun c24 => b2 (v_X4_mark c24 h10 x0 x1 x2) fun r20 h18 => some ((r12 + r20), h18)

theorem m_X4_size : MI yX4_size cX4_size 4 (some .int) 2 := ⟨co_X4_size, ini_X4, by decide, by decide +kernel⟩
set_option maxRecDepth 100000 in
set_option maxHeartbeats 4000000 in
theorem k_X4_size {lo : Nat} {h : Hp} {x0 : Nat} {x1 : Int32} {x2 : Nat} {r : Int32} {h' : Hp} (e : f_X4_size h x0 x1 x2 = some (r, h')) : ∀ l d, AC l d lo yX4_size cX4_size 4 (some .int) ({ frames := 5, cells := 0, slots := 0, locals := 124 } : Room) [.ref (lo + x0), .int x1, .ref (lo + x2)] h (some (.int r)) h' := by
  intro l d
  refine AC_of (by decide) (Nat.le_of_ble_eq_true rfl) ?_
  intro G C _ _ q
  unfold f_X4_size at e
  show AW G lo 0 0 0 [(0, .ref (lo + x0)), (1, .int x1), (2, .ref (lo + x2))] [] h
  refine a_aload_n C dX4_size_0 rfl 2 rfl ?_
  refine a_bipush (v := (11 : Int32)) C dX4_size_1 (by decide) ?_
  obtain ⟨u7, ec6, e⟩ := bA_some e
  obtain ⟨fs5, eo4⟩ := isC_some ec6
  obtain ⟨h1, e2, e⟩ := bA_some e
  refine a_callV (as := [.int (11 : Int32)]) (rest := []) C m_X6_add im_X6_add cb5 se_X6_X6_add_X6_add ml_X4_17 rfl (Nat.le_of_ble_eq_true rfl) (Nat.le_of_ble_eq_true rfl) (Nat.le_of_ble_eq_true rfl) (Nat.le_of_ble_eq_true rfl) (Nat.le_of_ble_eq_true rfl) dX4_size_3 eo4 (k_X6_add e2) rfl ?_
  show AW G lo 0 0 6 [(0, .ref (lo + x0)), (1, .int x1), (2, .ref (lo + x2))] [] h1
  refine a_aload_n C dX4_size_6 rfl 0 rfl ?_
  refine a_iload_n C dX4_size_7 rfl 1 rfl ?_
  refine a_aload_n C dX4_size_8 rfl 2 rfl ?_
  obtain ⟨c16, ec15, e⟩ := bA_some e
  obtain ⟨fs14, eo13, ed17⟩ := gC_some ec15
  obtain ⟨r12, h10, e11, e⟩ := b2_some e
  obtain ⟨_, _, cb_c16⟩ := isD_cb ed17
  refine a_callSU (as := [.int x1, .ref (lo + x2)]) (rest := []) C m_X2_size (by decide) im_X2_size cb_c16 sam_X2_X2_size sup_X4_X2 ml_X4_23 rfl (Nat.le_of_ble_eq_true rfl) (Nat.le_of_ble_eq_true rfl) (Nat.le_of_ble_eq_true rfl) (Nat.le_of_ble_eq_true rfl) (Nat.le_of_ble_eq_true rfl) dX4_size_9 eo13 (k_X2_size e11) rfl ?_
  show AW G lo 0 0 12 [(0, .ref (lo + x0)), (1, .int x1), (2, .ref (lo + x2))] [.int r12] h10
  refine a_istore_n (lv2 := [(3, .int r12), (0, .ref (lo + x0)), (1, .int x1), (2, .ref (lo + x2))]) C dX4_size_12 rfl (by decide) rfl ?_
  refine a_iload_n C dX4_size_13 rfl 0 rfl ?_
  refine a_aload_n C dX4_size_14 rfl 1 rfl ?_
  refine a_iload_n C dX4_size_15 rfl 2 rfl ?_
  refine a_aload_n C dX4_size_16 rfl 3 rfl ?_
  obtain ⟨c24, ec23, e⟩ := bA_some e
  obtain ⟨fs22, eo21, ed25⟩ := gC_some ec23
  obtain ⟨r20, h18, e19, e⟩ := b2_some e
  refine a_callD (as := [.int x1, .ref (lo + x2)]) (rest := [.int r12]) C (vd_X4_mark e19) sam_X4_X4_mark du_X4_mark (by decide) ml_X4_27 (Nat.le_of_ble_eq_true rfl) (Nat.le_of_ble_eq_true rfl) (Nat.le_of_ble_eq_true rfl) (Nat.le_of_ble_eq_true rfl) (Nat.le_of_ble_eq_true rfl) dX4_size_17 eo21 rfl ?_
  show AW G lo 0 0 20 [(3, .int r12), (0, .ref (lo + x0)), (1, .int x1), (2, .ref (lo + x2))] [.int r20, .int r12] h18
  refine a_iadd C dX4_size_20 ?_
  obtain ⟨rfl, rfl⟩ := sp2 e
  exact a_iret C q (Nat.le_of_ble_eq_true rfl) (Nat.le_of_ble_eq_true rfl) dX4_size_21

set_option maxRecDepth 100000 in
set_option maxHeartbeats 4000000 in
theorem kv_X4_size {lo : Nat} {h : Hp} {x0 : Nat} {x1 : Int32} {x2 : Nat} {r : Int32} {h' : Hp} (e : f_X4_size h x0 x1 x2 = some (r, h')) : ∀ l d, AC l d lo yX4_size cX4_size 4 (some .int) ({ frames := 8, cells := 0, slots := 0, locals := 300 } : Room) [.ref (lo + x0), .int x1, .ref (lo + x2)] h (some (.int r)) h' := by
  intro l d
  refine AC_of (by decide) (Nat.le_of_ble_eq_true rfl) ?_
  intro G C _ _ q
  unfold f_X4_size at e
  show AW G lo 0 0 0 [(0, .ref (lo + x0)), (1, .int x1), (2, .ref (lo + x2))] [] h
  refine a_aload_n C dX4_size_0 rfl 2 rfl ?_
  refine a_bipush (v := (11 : Int32)) C dX4_size_1 (by decide) ?_
  obtain ⟨u7, ec6, e⟩ := bA_some e
  obtain ⟨fs5, eo4⟩ := isC_some ec6
  obtain ⟨h1, e2, e⟩ := bA_some e
  refine a_callV (as := [.int (11 : Int32)]) (rest := []) C m_X6_add im_X6_add cb5 se_X6_X6_add_X6_add ml_X4_17 rfl (Nat.le_of_ble_eq_true rfl) (Nat.le_of_ble_eq_true rfl) (Nat.le_of_ble_eq_true rfl) (Nat.le_of_ble_eq_true rfl) (Nat.le_of_ble_eq_true rfl) dX4_size_3 eo4 (k_X6_add e2) rfl ?_
  show AW G lo 0 0 6 [(0, .ref (lo + x0)), (1, .int x1), (2, .ref (lo + x2))] [] h1
  refine a_aload_n C dX4_size_6 rfl 0 rfl ?_
  refine a_iload_n C dX4_size_7 rfl 1 rfl ?_
  refine a_aload_n C dX4_size_8 rfl 2 rfl ?_
  obtain ⟨c16, ec15, e⟩ := bA_some e
  obtain ⟨fs14, eo13, ed17⟩ := gC_some ec15
  obtain ⟨r12, h10, e11, e⟩ := b2_some e
  obtain ⟨_, _, cb_c16⟩ := isD_cb ed17
  refine a_callSU (as := [.int x1, .ref (lo + x2)]) (rest := []) C m_X2_size (by decide) im_X2_size cb_c16 sam_X2_X2_size sup_X4_X2 ml_X4_23 rfl (Nat.le_of_ble_eq_true rfl) (Nat.le_of_ble_eq_true rfl) (Nat.le_of_ble_eq_true rfl) (Nat.le_of_ble_eq_true rfl) (Nat.le_of_ble_eq_true rfl) dX4_size_9 eo13 (k_X2_size e11) rfl ?_
  show AW G lo 0 0 12 [(0, .ref (lo + x0)), (1, .int x1), (2, .ref (lo + x2))] [.int r12] h10
  refine a_istore_n (lv2 := [(3, .int r12), (0, .ref (lo + x0)), (1, .int x1), (2, .ref (lo + x2))]) C dX4_size_12 rfl (by decide) rfl ?_
  refine a_iload_n C dX4_size_13 rfl 0 rfl ?_
  refine a_aload_n C dX4_size_14 rfl 1 rfl ?_
  refine a_iload_n C dX4_size_15 rfl 2 rfl ?_
  refine a_aload_n C dX4_size_16 rfl 3 rfl ?_
  obtain ⟨c24, ec23, e⟩ := bA_some e
  obtain ⟨fs22, eo21, ed25⟩ := gC_some ec23
  obtain ⟨r20, h18, e19, e⟩ := b2_some e
  refine a_callD (as := [.int x1, .ref (lo + x2)]) (rest := [.int r12]) C (vd_X4_mark e19) sam_X4_X4_mark du_X4_mark (by decide) ml_X4_27 (Nat.le_of_ble_eq_true rfl) (Nat.le_of_ble_eq_true rfl) (Nat.le_of_ble_eq_true rfl) (Nat.le_of_ble_eq_true rfl) (Nat.le_of_ble_eq_true rfl) dX4_size_17 eo21 rfl ?_
  show AW G lo 0 0 20 [(3, .int r12), (0, .ref (lo + x0)), (1, .int x1), (2, .ref (lo + x2))] [.int r20, .int r12] h18
  refine a_iadd C dX4_size_20 ?_
  obtain ⟨rfl, rfl⟩ := sp2 e
  exact a_iret C q (Nat.le_of_ble_eq_true rfl) (Nat.le_of_ble_eq_true rfl) dX4_size_21

set_option maxRecDepth 100000 in
def f_X0_size (h : Hp) (x0 : Nat) (x1 : Int32) (x2 : Nat) : Option (Int32 × Hp) := bA (isC h x2 5) fun u7 => bA (f_X6_add h x2 (12 : Int32)) fun h1 => bA (gC h1 x0) fun c16 => b2 (f_X4_size h1 x0 x1 x2) fun r12 h10 => some ((-r12), h10)

theorem m_X0_size : MI yX0_size cX0_size 3 (some .int) 2 := ⟨co_X0_size, ini_X0, by decide, by decide +kernel⟩
set_option maxRecDepth 100000 in
set_option maxHeartbeats 4000000 in
theorem k_X0_size {lo : Nat} {h : Hp} {x0 : Nat} {x1 : Int32} {x2 : Nat} {r : Int32} {h' : Hp} (e : f_X0_size h x0 x1 x2 = some (r, h')) : ∀ l d, AC l d lo yX0_size cX0_size 3 (some .int) ({ frames := 6, cells := 0, slots := 0, locals := 147 } : Room) [.ref (lo + x0), .int x1, .ref (lo + x2)] h (some (.int r)) h' := by
  intro l d
  refine AC_of (by decide) (Nat.le_of_ble_eq_true rfl) ?_
  intro G C _ _ q
  unfold f_X0_size at e
  show AW G lo 0 0 0 [(0, .ref (lo + x0)), (1, .int x1), (2, .ref (lo + x2))] [] h
  refine a_aload_n C dX0_size_0 rfl 2 rfl ?_
  refine a_bipush (v := (12 : Int32)) C dX0_size_1 (by decide) ?_
  obtain ⟨u7, ec6, e⟩ := bA_some e
  obtain ⟨fs5, eo4⟩ := isC_some ec6
  obtain ⟨h1, e2, e⟩ := bA_some e
  refine a_callV (as := [.int (12 : Int32)]) (rest := []) C m_X6_add im_X6_add cb5 se_X6_X6_add_X6_add ml_X0_17 rfl (Nat.le_of_ble_eq_true rfl) (Nat.le_of_ble_eq_true rfl) (Nat.le_of_ble_eq_true rfl) (Nat.le_of_ble_eq_true rfl) (Nat.le_of_ble_eq_true rfl) dX0_size_3 eo4 (k_X6_add e2) rfl ?_
  show AW G lo 0 0 6 [(0, .ref (lo + x0)), (1, .int x1), (2, .ref (lo + x2))] [] h1
  refine a_aload_n C dX0_size_6 rfl 0 rfl ?_
  refine a_iload_n C dX0_size_7 rfl 1 rfl ?_
  refine a_aload_n C dX0_size_8 rfl 2 rfl ?_
  obtain ⟨c16, ec15, e⟩ := bA_some e
  obtain ⟨fs14, eo13, ed17⟩ := gC_some ec15
  obtain ⟨r12, h10, e11, e⟩ := b2_some e
  obtain ⟨_, _, cb_c16⟩ := isD_cb ed17
  refine a_callSU (as := [.int x1, .ref (lo + x2)]) (rest := []) C m_X4_size (by decide) im_X4_size cb_c16 sam_X4_X4_size sup_X0_X4 ml_X0_23 rfl (Nat.le_of_ble_eq_true rfl) (Nat.le_of_ble_eq_true rfl) (Nat.le_of_ble_eq_true rfl) (Nat.le_of_ble_eq_true rfl) (Nat.le_of_ble_eq_true rfl) dX0_size_9 eo13 (k_X4_size e11) rfl ?_
  show AW G lo 0 0 12 [(0, .ref (lo + x0)), (1, .int x1), (2, .ref (lo + x2))] [.int r12] h10
  refine a_ineg C dX0_size_12 ?_
  obtain ⟨rfl, rfl⟩ := sp2 e
  exact a_iret C q (Nat.le_of_ble_eq_true rfl) (Nat.le_of_ble_eq_true rfl) dX0_size_13

set_option maxRecDepth 100000 in
set_option maxHeartbeats 4000000 in
theorem kv_X0_size {lo : Nat} {h : Hp} {x0 : Nat} {x1 : Int32} {x2 : Nat} {r : Int32} {h' : Hp} (e : f_X0_size h x0 x1 x2 = some (r, h')) : ∀ l d, AC l d lo yX0_size cX0_size 3 (some .int) ({ frames := 8, cells := 0, slots := 0, locals := 300 } : Room) [.ref (lo + x0), .int x1, .ref (lo + x2)] h (some (.int r)) h' := by
  intro l d
  refine AC_of (by decide) (Nat.le_of_ble_eq_true rfl) ?_
  intro G C _ _ q
  unfold f_X0_size at e
  show AW G lo 0 0 0 [(0, .ref (lo + x0)), (1, .int x1), (2, .ref (lo + x2))] [] h
  refine a_aload_n C dX0_size_0 rfl 2 rfl ?_
  refine a_bipush (v := (12 : Int32)) C dX0_size_1 (by decide) ?_
  obtain ⟨u7, ec6, e⟩ := bA_some e
  obtain ⟨fs5, eo4⟩ := isC_some ec6
  obtain ⟨h1, e2, e⟩ := bA_some e
  refine a_callV (as := [.int (12 : Int32)]) (rest := []) C m_X6_add im_X6_add cb5 se_X6_X6_add_X6_add ml_X0_17 rfl (Nat.le_of_ble_eq_true rfl) (Nat.le_of_ble_eq_true rfl) (Nat.le_of_ble_eq_true rfl) (Nat.le_of_ble_eq_true rfl) (Nat.le_of_ble_eq_true rfl) dX0_size_3 eo4 (k_X6_add e2) rfl ?_
  show AW G lo 0 0 6 [(0, .ref (lo + x0)), (1, .int x1), (2, .ref (lo + x2))] [] h1
  refine a_aload_n C dX0_size_6 rfl 0 rfl ?_
  refine a_iload_n C dX0_size_7 rfl 1 rfl ?_
  refine a_aload_n C dX0_size_8 rfl 2 rfl ?_
  obtain ⟨c16, ec15, e⟩ := bA_some e
  obtain ⟨fs14, eo13, ed17⟩ := gC_some ec15
  obtain ⟨r12, h10, e11, e⟩ := b2_some e
  obtain ⟨_, _, cb_c16⟩ := isD_cb ed17
  refine a_callSU (as := [.int x1, .ref (lo + x2)]) (rest := []) C m_X4_size (by decide) im_X4_size cb_c16 sam_X4_X4_size sup_X0_X4 ml_X0_23 rfl (Nat.le_of_ble_eq_true rfl) (Nat.le_of_ble_eq_true rfl) (Nat.le_of_ble_eq_true rfl) (Nat.le_of_ble_eq_true rfl) (Nat.le_of_ble_eq_true rfl) dX0_size_9 eo13 (k_X4_size e11) rfl ?_
  show AW G lo 0 0 12 [(0, .ref (lo + x0)), (1, .int x1), (2, .ref (lo + x2))] [.int r12] h10
  refine a_ineg C dX0_size_12 ?_
  obtain ⟨rfl, rfl⟩ := sp2 e
  exact a_iret C q (Nat.le_of_ble_eq_true rfl) (Nat.le_of_ble_eq_true rfl) dX0_size_13

set_option maxRecDepth 100000 in
def f_X5_size (h : Hp) (x0 : Nat) (x1 : Int32) (x2 : Nat) : Option (Int32 × Hp) := bA (isC h x2 5) fun u7 => bA (f_X6_add h x2 (13 : Int32)) fun h1 => bA (gC h1 x0) fun c16 => b2 (f_X2_size h1 x0 x1 x2) fun r12 h10 => some ((r12 - (100 : Int32)), h10)

theorem m_X5_size : MI yX5_size cX5_size 3 (some .int) 2 := ⟨co_X5_size, ini_X5, by decide, by decide +kernel⟩
set_option maxRecDepth 100000 in
set_option maxHeartbeats 4000000 in
theorem k_X5_size {lo : Nat} {h : Hp} {x0 : Nat} {x1 : Int32} {x2 : Nat} {r : Int32} {h' : Hp} (e : f_X5_size h x0 x1 x2 = some (r, h')) : ∀ l d, AC l d lo yX5_size cX5_size 3 (some .int) ({ frames := 2, cells := 0, slots := 0, locals := 43 } : Room) [.ref (lo + x0), .int x1, .ref (lo + x2)] h (some (.int r)) h' := by
  intro l d
  refine AC_of (by decide) (Nat.le_of_ble_eq_true rfl) ?_
  intro G C _ _ q
  unfold f_X5_size at e
  show AW G lo 0 0 0 [(0, .ref (lo + x0)), (1, .int x1), (2, .ref (lo + x2))] [] h
  refine a_aload_n C dX5_size_0 rfl 2 rfl ?_
  refine a_bipush (v := (13 : Int32)) C dX5_size_1 (by decide) ?_
  obtain ⟨u7, ec6, e⟩ := bA_some e
  obtain ⟨fs5, eo4⟩ := isC_some ec6
  obtain ⟨h1, e2, e⟩ := bA_some e
  refine a_callV (as := [.int (13 : Int32)]) (rest := []) C m_X6_add im_X6_add cb5 se_X6_X6_add_X6_add ml_X5_17 rfl (Nat.le_of_ble_eq_true rfl) (Nat.le_of_ble_eq_true rfl) (Nat.le_of_ble_eq_true rfl) (Nat.le_of_ble_eq_true rfl) (Nat.le_of_ble_eq_true rfl) dX5_size_3 eo4 (k_X6_add e2) rfl ?_
  show AW G lo 0 0 6 [(0, .ref (lo + x0)), (1, .int x1), (2, .ref (lo + x2))] [] h1
  refine a_aload_n C dX5_size_6 rfl 0 rfl ?_
  refine a_iload_n C dX5_size_7 rfl 1 rfl ?_
  refine a_aload_n C dX5_size_8 rfl 2 rfl ?_
  obtain ⟨c16, ec15, e⟩ := bA_some e
  obtain ⟨fs14, eo13, ed17⟩ := gC_some ec15
  obtain ⟨r12, h10, e11, e⟩ := b2_some e
  obtain ⟨_, _, cb_c16⟩ := isD_cb ed17
  refine a_callSU (as := [.int x1, .ref (lo + x2)]) (rest := []) C m_X2_size (by decide) im_X2_size cb_c16 sam_X2_X2_size sup_X5_X2 ml_X5_23 rfl (Nat.le_of_ble_eq_true rfl) (Nat.le_of_ble_eq_true rfl) (Nat.le_of_ble_eq_true rfl) (Nat.le_of_ble_eq_true rfl) (Nat.le_of_ble_eq_true rfl) dX5_size_9 eo13 (k_X2_size e11) rfl ?_
  show AW G lo 0 0 12 [(0, .ref (lo + x0)), (1, .int x1), (2, .ref (lo + x2))] [.int r12] h10
  refine a_bipush (v := (100 : Int32)) C dX5_size_12 (by decide) ?_
  refine a_isub C dX5_size_14 ?_
  obtain ⟨rfl, rfl⟩ := sp2 e
  exact a_iret C q (Nat.le_of_ble_eq_true rfl) (Nat.le_of_ble_eq_true rfl) dX5_size_15

set_option maxRecDepth 100000 in
set_option maxHeartbeats 4000000 in
theorem kv_X5_size {lo : Nat} {h : Hp} {x0 : Nat} {x1 : Int32} {x2 : Nat} {r : Int32} {h' : Hp} (e : f_X5_size h x0 x1 x2 = some (r, h')) : ∀ l d, AC l d lo yX5_size cX5_size 3 (some .int) ({ frames := 8, cells := 0, slots := 0, locals := 300 } : Room) [.ref (lo + x0), .int x1, .ref (lo + x2)] h (some (.int r)) h' := by
  intro l d
  refine AC_of (by decide) (Nat.le_of_ble_eq_true rfl) ?_
  intro G C _ _ q
  unfold f_X5_size at e
  show AW G lo 0 0 0 [(0, .ref (lo + x0)), (1, .int x1), (2, .ref (lo + x2))] [] h
  refine a_aload_n C dX5_size_0 rfl 2 rfl ?_
  refine a_bipush (v := (13 : Int32)) C dX5_size_1 (by decide) ?_
  obtain ⟨u7, ec6, e⟩ := bA_some e
  obtain ⟨fs5, eo4⟩ := isC_some ec6
  obtain ⟨h1, e2, e⟩ := bA_some e
  refine a_callV (as := [.int (13 : Int32)]) (rest := []) C m_X6_add im_X6_add cb5 se_X6_X6_add_X6_add ml_X5_17 rfl (Nat.le_of_ble_eq_true rfl) (Nat.le_of_ble_eq_true rfl) (Nat.le_of_ble_eq_true rfl) (Nat.le_of_ble_eq_true rfl) (Nat.le_of_ble_eq_true rfl) dX5_size_3 eo4 (k_X6_add e2) rfl ?_
  show AW G lo 0 0 6 [(0, .ref (lo + x0)), (1, .int x1), (2, .ref (lo + x2))] [] h1
  refine a_aload_n C dX5_size_6 rfl 0 rfl ?_
  refine a_iload_n C dX5_size_7 rfl 1 rfl ?_
  refine a_aload_n C dX5_size_8 rfl 2 rfl ?_
  obtain ⟨c16, ec15, e⟩ := bA_some e
  obtain ⟨fs14, eo13, ed17⟩ := gC_some ec15
  obtain ⟨r12, h10, e11, e⟩ := b2_some e
  obtain ⟨_, _, cb_c16⟩ := isD_cb ed17
  refine a_callSU (as := [.int x1, .ref (lo + x2)]) (rest := []) C m_X2_size (by decide) im_X2_size cb_c16 sam_X2_X2_size sup_X5_X2 ml_X5_23 rfl (Nat.le_of_ble_eq_true rfl) (Nat.le_of_ble_eq_true rfl) (Nat.le_of_ble_eq_true rfl) (Nat.le_of_ble_eq_true rfl) (Nat.le_of_ble_eq_true rfl) dX5_size_9 eo13 (k_X2_size e11) rfl ?_
  show AW G lo 0 0 12 [(0, .ref (lo + x0)), (1, .int x1), (2, .ref (lo + x2))] [.int r12] h10
  refine a_bipush (v := (100 : Int32)) C dX5_size_12 (by decide) ?_
  refine a_isub C dX5_size_14 ?_
  obtain ⟨rfl, rfl⟩ := sp2 e
  exact a_iret C q (Nat.le_of_ble_eq_true rfl) (Nat.le_of_ble_eq_true rfl) dX5_size_15

set_option maxRecDepth 100000 in
set_option maxHeartbeats 4000000 in
theorem kw_X5_size {lo : Nat} {h : Hp} {x0 : Nat} {x1 : Int32} {x2 : Nat} {r : Int32} {h' : Hp} (e : f_X5_size h x0 x1 x2 = some (r, h')) : ∀ l d, AC l d lo yX5_size cX5_size 3 (some .int) ({ frames := 4, cells := 0, slots := 0, locals := 100 } : Room) [.ref (lo + x0), .int x1, .ref (lo + x2)] h (some (.int r)) h' := by
  intro l d
  refine AC_of (by decide) (Nat.le_of_ble_eq_true rfl) ?_
  intro G C _ _ q
  unfold f_X5_size at e
  show AW G lo 0 0 0 [(0, .ref (lo + x0)), (1, .int x1), (2, .ref (lo + x2))] [] h
  refine a_aload_n C dX5_size_0 rfl 2 rfl ?_
  refine a_bipush (v := (13 : Int32)) C dX5_size_1 (by decide) ?_
  obtain ⟨u7, ec6, e⟩ := bA_some e
  obtain ⟨fs5, eo4⟩ := isC_some ec6
  obtain ⟨h1, e2, e⟩ := bA_some e
  refine a_callV (as := [.int (13 : Int32)]) (rest := []) C m_X6_add im_X6_add cb5 se_X6_X6_add_X6_add ml_X5_17 rfl (Nat.le_of_ble_eq_true rfl) (Nat.le_of_ble_eq_true rfl) (Nat.le_of_ble_eq_true rfl) (Nat.le_of_ble_eq_true rfl) (Nat.le_of_ble_eq_true rfl) dX5_size_3 eo4 (k_X6_add e2) rfl ?_
  show AW G lo 0 0 6 [(0, .ref (lo + x0)), (1, .int x1), (2, .ref (lo + x2))] [] h1
  refine a_aload_n C dX5_size_6 rfl 0 rfl ?_
  refine a_iload_n C dX5_size_7 rfl 1 rfl ?_
  refine a_aload_n C dX5_size_8 rfl 2 rfl ?_
  obtain ⟨c16, ec15, e⟩ := bA_some e
  obtain ⟨fs14, eo13, ed17⟩ := gC_some ec15
  obtain ⟨r12, h10, e11, e⟩ := b2_some e
  obtain ⟨_, _, cb_c16⟩ := isD_cb ed17
  refine a_callSU (as := [.int x1, .ref (lo + x2)]) (rest := []) C m_X2_size (by decide) im_X2_size cb_c16 sam_X2_X2_size sup_X5_X2 ml_X5_23 rfl (Nat.le_of_ble_eq_true rfl) (Nat.le_of_ble_eq_true rfl) (Nat.le_of_ble_eq_true rfl) (Nat.le_of_ble_eq_true rfl) (Nat.le_of_ble_eq_true rfl) dX5_size_9 eo13 (k_X2_size e11) rfl ?_
  show AW G lo 0 0 12 [(0, .ref (lo + x0)), (1, .int x1), (2, .ref (lo + x2))] [.int r12] h10
  refine a_bipush (v := (100 : Int32)) C dX5_size_12 (by decide) ?_
  refine a_isub C dX5_size_14 ?_
  obtain ⟨rfl, rfl⟩ := sp2 e
  exact a_iret C q (Nat.le_of_ble_eq_true rfl) (Nat.le_of_ble_eq_true rfl) dX5_size_15

set_option maxRecDepth 100000 in
def f_X9_size (h : Hp) (x0 : Nat) (x1 : Int32) (x2 : Nat) : Option (Int32 × Hp) := bA (isC h x2 5) fun u7 => bA (f_X6_add h x2 (14 : Int32)) fun h1 => bA (gC h1 x0) fun c16 => b2 (f_X5_size h1 x0 x1 x2) fun r12 h10 => some (((2 : Int32) * r12), h10)

theorem m_X9_size : MI yX9_size cX9_size 3 (some .int) 2 := ⟨co_X9_size, ini_X9, by decide, by decide +kernel⟩
set_option maxRecDepth 100000 in
set_option maxHeartbeats 4000000 in
theorem k_X9_size {lo : Nat} {h : Hp} {x0 : Nat} {x1 : Int32} {x2 : Nat} {r : Int32} {h' : Hp} (e : f_X9_size h x0 x1 x2 = some (r, h')) : ∀ l d, AC l d lo yX9_size cX9_size 3 (some .int) ({ frames := 3, cells := 0, slots := 0, locals := 65 } : Room) [.ref (lo + x0), .int x1, .ref (lo + x2)] h (some (.int r)) h' := by
  intro l d
  refine AC_of (by decide) (Nat.le_of_ble_eq_true rfl) ?_
  intro G C _ _ q
  unfold f_X9_size at e
  show AW G lo 0 0 0 [(0, .ref (lo + x0)), (1, .int x1), (2, .ref (lo + x2))] [] h
  refine a_aload_n C dX9_size_0 rfl 2 rfl ?_
  refine a_bipush (v := (14 : Int32)) C dX9_size_1 (by decide) ?_
  obtain ⟨u7, ec6, e⟩ := bA_some e
  obtain ⟨fs5, eo4⟩ := isC_some ec6
  obtain ⟨h1, e2, e⟩ := bA_some e
  refine a_callV (as := [.int (14 : Int32)]) (rest := []) C m_X6_add im_X6_add cb5 se_X6_X6_add_X6_add ml_X9_11 rfl (Nat.le_of_ble_eq_true rfl) (Nat.le_of_ble_eq_true rfl) (Nat.le_of_ble_eq_true rfl) (Nat.le_of_ble_eq_true rfl) (Nat.le_of_ble_eq_true rfl) dX9_size_3 eo4 (k_X6_add e2) rfl ?_
  show AW G lo 0 0 6 [(0, .ref (lo + x0)), (1, .int x1), (2, .ref (lo + x2))] [] h1
  refine a_iconst (v := (2 : Int32)) C dX9_size_6 (by decide) ?_
  refine a_aload_n C dX9_size_7 rfl 0 rfl ?_
  refine a_iload_n C dX9_size_8 rfl 1 rfl ?_
  refine a_aload_n C dX9_size_9 rfl 2 rfl ?_
  obtain ⟨c16, ec15, e⟩ := bA_some e
  obtain ⟨fs14, eo13, ed17⟩ := gC_some ec15
  obtain ⟨r12, h10, e11, e⟩ := b2_some e
  obtain ⟨_, _, cb_c16⟩ := isD_cb ed17
  refine a_callSU (as := [.int x1, .ref (lo + x2)]) (rest := [.int (2 : Int32)]) C m_X5_size (by decide) im_X5_size cb_c16 sam_X5_X5_size sup_X9_X5 ml_X9_17 rfl (Nat.le_of_ble_eq_true rfl) (Nat.le_of_ble_eq_true rfl) (Nat.le_of_ble_eq_true rfl) (Nat.le_of_ble_eq_true rfl) (Nat.le_of_ble_eq_true rfl) dX9_size_10 eo13 (k_X5_size e11) rfl ?_
  show AW G lo 0 0 13 [(0, .ref (lo + x0)), (1, .int x1), (2, .ref (lo + x2))] [.int r12, .int (2 : Int32)] h10
  refine a_imul C dX9_size_13 ?_
  obtain ⟨rfl, rfl⟩ := sp2 e
  exact a_iret C q (Nat.le_of_ble_eq_true rfl) (Nat.le_of_ble_eq_true rfl) dX9_size_14

set_option maxRecDepth 100000 in
set_option maxHeartbeats 4000000 in
theorem kv_X9_size {lo : Nat} {h : Hp} {x0 : Nat} {x1 : Int32} {x2 : Nat} {r : Int32} {h' : Hp} (e : f_X9_size h x0 x1 x2 = some (r, h')) : ∀ l d, AC l d lo yX9_size cX9_size 3 (some .int) ({ frames := 8, cells := 0, slots := 0, locals := 300 } : Room) [.ref (lo + x0), .int x1, .ref (lo + x2)] h (some (.int r)) h' := by
  intro l d
  refine AC_of (by decide) (Nat.le_of_ble_eq_true rfl) ?_
  intro G C _ _ q
  unfold f_X9_size at e
  show AW G lo 0 0 0 [(0, .ref (lo + x0)), (1, .int x1), (2, .ref (lo + x2))] [] h
  refine a_aload_n C dX9_size_0 rfl 2 rfl ?_
  refine a_bipush (v := (14 : Int32)) C dX9_size_1 (by decide) ?_
  obtain ⟨u7, ec6, e⟩ := bA_some e
  obtain ⟨fs5, eo4⟩ := isC_some ec6
  obtain ⟨h1, e2, e⟩ := bA_some e
  refine a_callV (as := [.int (14 : Int32)]) (rest := []) C m_X6_add im_X6_add cb5 se_X6_X6_add_X6_add ml_X9_11 rfl (Nat.le_of_ble_eq_true rfl) (Nat.le_of_ble_eq_true rfl) (Nat.le_of_ble_eq_true rfl) (Nat.le_of_ble_eq_true rfl) (Nat.le_of_ble_eq_true rfl) dX9_size_3 eo4 (k_X6_add e2) rfl ?_
  show AW G lo 0 0 6 [(0, .ref (lo + x0)), (1, .int x1), (2, .ref (lo + x2))] [] h1
  refine a_iconst (v := (2 : Int32)) C dX9_size_6 (by decide) ?_
  refine a_aload_n C dX9_size_7 rfl 0 rfl ?_
  refine a_iload_n C dX9_size_8 rfl 1 rfl ?_
  refine a_aload_n C dX9_size_9 rfl 2 rfl ?_
  obtain ⟨c16, ec15, e⟩ := bA_some e
  obtain ⟨fs14, eo13, ed17⟩ := gC_some ec15
  obtain ⟨r12, h10, e11, e⟩ := b2_some e
  obtain ⟨_, _, cb_c16⟩ := isD_cb ed17
  refine a_callSU (as := [.int x1, .ref (lo + x2)]) (rest := [.int (2 : Int32)]) C m_X5_size (by decide) im_X5_size cb_c16 sam_X5_X5_size sup_X9_X5 ml_X9_17 rfl (Nat.le_of_ble_eq_true rfl) (Nat.le_of_ble_eq_true rfl) (Nat.le_of_ble_eq_true rfl) (Nat.le_of_ble_eq_true rfl) (Nat.le_of_ble_eq_true rfl) dX9_size_10 eo13 (k_X5_size e11) rfl ?_
  show AW G lo 0 0 13 [(0, .ref (lo + x0)), (1, .int x1), (2, .ref (lo + x2))] [.int r12, .int (2 : Int32)] h10
  refine a_imul C dX9_size_13 ?_
  obtain ⟨rfl, rfl⟩ := sp2 e
  exact a_iret C q (Nat.le_of_ble_eq_true rfl) (Nat.le_of_ble_eq_true rfl) dX9_size_14

set_option maxRecDepth 100000 in
set_option maxHeartbeats 4000000 in
theorem kw_X9_size {lo : Nat} {h : Hp} {x0 : Nat} {x1 : Int32} {x2 : Nat} {r : Int32} {h' : Hp} (e : f_X9_size h x0 x1 x2 = some (r, h')) : ∀ l d, AC l d lo yX9_size cX9_size 3 (some .int) ({ frames := 4, cells := 0, slots := 0, locals := 100 } : Room) [.ref (lo + x0), .int x1, .ref (lo + x2)] h (some (.int r)) h' := by
  intro l d
  refine AC_of (by decide) (Nat.le_of_ble_eq_true rfl) ?_
  intro G C _ _ q
  unfold f_X9_size at e
  show AW G lo 0 0 0 [(0, .ref (lo + x0)), (1, .int x1), (2, .ref (lo + x2))] [] h
  refine a_aload_n C dX9_size_0 rfl 2 rfl ?_
  refine a_bipush (v := (14 : Int32)) C dX9_size_1 (by decide) ?_
  obtain ⟨u7, ec6, e⟩ := bA_some e
  obtain ⟨fs5, eo4⟩ := isC_some ec6
  obtain ⟨h1, e2, e⟩ := bA_some e
  refine a_callV (as := [.int (14 : Int32)]) (rest := []) C m_X6_add im_X6_add cb5 se_X6_X6_add_X6_add ml_X9_11 rfl (Nat.le_of_ble_eq_true rfl) (Nat.le_of_ble_eq_true rfl) (Nat.le_of_ble_eq_true rfl) (Nat.le_of_ble_eq_true rfl) (Nat.le_of_ble_eq_true rfl) dX9_size_3 eo4 (k_X6_add e2) rfl ?_
  show AW G lo 0 0 6 [(0, .ref (lo + x0)), (1, .int x1), (2, .ref (lo + x2))] [] h1
  refine a_iconst (v := (2 : Int32)) C dX9_size_6 (by decide) ?_
  refine a_aload_n C dX9_size_7 rfl 0 rfl ?_
  refine a_iload_n C dX9_size_8 rfl 1 rfl ?_
  refine a_aload_n C dX9_size_9 rfl 2 rfl ?_
  obtain ⟨c16, ec15, e⟩ := bA_some e
  obtain ⟨fs14, eo13, ed17⟩ := gC_some ec15
  obtain ⟨r12, h10, e11, e⟩ := b2_some e
  obtain ⟨_, _, cb_c16⟩ := isD_cb ed17
  refine a_callSU (as := [.int x1, .ref (lo + x2)]) (rest := [.int (2 : Int32)]) C m_X5_size (by decide) im_X5_size cb_c16 sam_X5_X5_size sup_X9_X5 ml_X9_17 rfl (Nat.le_of_ble_eq_true rfl) (Nat.le_of_ble_eq_true rfl) (Nat.le_of_ble_eq_true rfl) (Nat.le_of_ble_eq_true rfl) (Nat.le_of_ble_eq_true rfl) dX9_size_10 eo13 (k_X5_size e11) rfl ?_
  show AW G lo 0 0 13 [(0, .ref (lo + x0)), (1, .int x1), (2, .ref (lo + x2))] [.int r12, .int (2 : Int32)] h10
  refine a_imul C dX9_size_13 ?_
  obtain ⟨rfl, rfl⟩ := sp2 e
  exact a_iret C q (Nat.le_of_ble_eq_true rfl) (Nat.le_of_ble_eq_true rfl) dX9_size_14

def v_X5_size (c : Nat) (h : Hp) (x0 : Nat) (x1 : Int32) (x2 : Nat) : Option (Int32 × Hp) :=
  if c = 4 then f_X5_size h x0 x1 x2 else if c = 8 then f_X9_size h x0 x1 x2 else none
theorem vd_X5_size {c lo : Nat} {h : Hp} {x0 : Nat} {x1 : Int32} {x2 : Nat} {r : Int32} {h2 : Hp} (e : v_X5_size c h x0 x1 x2 = some (r, h2)) : VD yX5_size c lo ({ frames := 4, cells := 0, slots := 0, locals := 100 } : Room) [.int x1, .ref (lo + x2)] h x0 (some (.int r)) h2 := by
  unfold v_X5_size at e
  by_cases q4 : c = 4
  · have e := ip q4 e
    subst q4
    exact ⟨_, _, _, _, _, _, _, _, _, cb4, m_X5_size, im_X5_size, se_X5_X5_size_X5_size, rfl, rfl, by decide, kw_X5_size e⟩
  have e := iN q4 e
  by_cases q8 : c = 8
  · have e := ip q8 e
    subst q8
    exact ⟨_, _, _, _, _, _, _, _, _, cb8, m_X9_size, im_X9_size, se_X9_X5_size_X9_size, rfl, rfl, by decide, kw_X9_size e⟩
  have e := iN q8 e
  cases e
theorem du_X5_size : DU yX5_size := Or.inr ⟨im_X5_size, _, _, _, co_X5_size⟩

set_option maxRecDepth 100000 in
def f_X5_mark (h : Hp) (x0 : Nat) (x1 : Int32) (x2 : Nat) : Option (Int32 × Hp) := bA (isC h x2 5) fun u7 => bA (f_X6_add h x2 (23 : Int32)) fun h1 => bA (gC h1 x0) fun c16 => b2 (f_X2_mark h1 x0 x1 x2) fun r12 h10 => bA (gC h10 x0) fun c24 => b2 (v_X5_size c24 h10 x0 x1 x2) fun r20 h18 => some ((r12 - r20), h18)

theorem m_X5_mark : MI yX5_mark cX5_mark 4 (some .int) 2 := ⟨co_X5_mark, ini_X5, by decide, by decide +kernel⟩
set_option maxRecDepth 100000 in
set_option maxHeartbeats 4000000 in
theorem k_X5_mark {lo : Nat} {h : Hp} {x0 : Nat} {x1 : Int32} {x2 : Nat} {r : Int32} {h' : Hp} (e : f_X5_mark h x0 x1 x2 = some (r, h')) : ∀ l d, AC l d lo yX5_mark cX5_mark 4 (some .int) ({ frames := 5, cells := 0, slots := 0, locals := 124 } : Room) [.ref (lo + x0), .int x1, .ref (lo + x2)] h (some (.int r)) h' := by
  intro l d
  refine AC_of (by decide) (Nat.le_of_ble_eq_true rfl) ?_
  intro G C _ _ q
  unfold f_X5_mark at e
  show AW G lo 0 0 0 [(0, .ref (lo + x0)), (1, .int x1), (2, .ref (lo + x2))] [] h
  refine a_aload_n C dX5_mark_0 rfl 2 rfl ?_
  refine a_bipush (v := (23 : Int32)) C dX5_mark_1 (by decide) ?_
  obtain ⟨u7, ec6, e⟩ := bA_some e
  obtain ⟨fs5, eo4⟩ := isC_some ec6
  obtain ⟨h1, e2, e⟩ := bA_some e
  refine a_callV (as := [.int (23 : Int32)]) (rest := []) C m_X6_add im_X6_add cb5 se_X6_X6_add_X6_add ml_X5_17 rfl (Nat.le_of_ble_eq_true rfl) (Nat.le_of_ble_eq_true rfl) (Nat.le_of_ble_eq_true rfl) (Nat.le_of_ble_eq_true rfl) (Nat.le_of_ble_eq_true rfl) dX5_mark_3 eo4 (k_X6_add e2) rfl ?_
  show AW G lo 0 0 6 [(0, .ref (lo + x0)), (1, .int x1), (2, .ref (lo + x2))] [] h1
  refine a_aload_n C dX5_mark_6 rfl 0 rfl ?_
  refine a_iload_n C dX5_mark_7 rfl 1 rfl ?_
  refine a_aload_n C dX5_mark_8 rfl 2 rfl ?_
  obtain ⟨c16, ec15, e⟩ := bA_some e
  obtain ⟨fs14, eo13, ed17⟩ := gC_some ec15
  obtain ⟨r12, h10, e11, e⟩ := b2_some e
  obtain ⟨_, _, cb_c16⟩ := isD_cb ed17
  refine a_callSU (as := [.int x1, .ref (lo + x2)]) (rest := []) C m_X2_mark (by decide) im_X2_mark cb_c16 sam_X2_X2_mark sup_X5_X2 ml_X5_27 rfl (Nat.le_of_ble_eq_true rfl) (Nat.le_of_ble_eq_true rfl) (Nat.le_of_ble_eq_true rfl) (Nat.le_of_ble_eq_true rfl) (Nat.le_of_ble_eq_true rfl) dX5_mark_9 eo13 (k_X2_mark e11) rfl ?_
  show AW G lo 0 0 12 [(0, .ref (lo + x0)), (1, .int x1), (2, .ref (lo + x2))] [.int r12] h10
  refine a_istore_n (lv2 := [(3, .int r12), (0, .ref (lo + x0)), (1, .int x1), (2, .ref (lo + x2))]) C dX5_mark_12 rfl (by decide) rfl ?_
  refine a_iload_n C dX5_mark_13 rfl 0 rfl ?_
  refine a_aload_n C dX5_mark_14 rfl 1 rfl ?_
  refine a_iload_n C dX5_mark_15 rfl 2 rfl ?_
  refine a_aload_n C dX5_mark_16 rfl 3 rfl ?_
  obtain ⟨c24, ec23, e⟩ := bA_some e
  obtain ⟨fs22, eo21, ed25⟩ := gC_some ec23
  obtain ⟨r20, h18, e19, e⟩ := b2_some e
  refine a_callD (as := [.int x1, .ref (lo + x2)]) (rest := [.int r12]) C (vd_X5_size e19) sam_X5_X5_size du_X5_size (by decide) ml_X5_30 (Nat.le_of_ble_eq_true rfl) (Nat.le_of_ble_eq_true rfl) (Nat.le_of_ble_eq_true rfl) (Nat.le_of_ble_eq_true rfl) (Nat.le_of_ble_eq_true rfl) dX5_mark_17 eo21 rfl ?_
  show AW G lo 0 0 20 [(3, .int r12), (0, .ref (lo + x0)), (1, .int x1), (2, .ref (lo + x2))] [.int r20, .int r12] h18
  refine a_isub C dX5_mark_20 ?_
  obtain ⟨rfl, rfl⟩ := sp2 e
  exact a_iret C q (Nat.le_of_ble_eq_true rfl) (Nat.le_of_ble_eq_true rfl) dX5_mark_21

set_option maxRecDepth 100000 in
set_option maxHeartbeats 4000000 in
theorem kv_X5_mark {lo : Nat} {h : Hp} {x0 : Nat} {x1 : Int32} {x2 : Nat} {r : Int32} {h' : Hp} (e : f_X5_mark h x0 x1 x2 = some (r, h')) : ∀ l d, AC l d lo yX5_mark cX5_mark 4 (some .int) ({ frames := 8, cells := 0, slots := 0, locals := 300 } : Room) [.ref (lo + x0), .int x1, .ref (lo + x2)] h (some (.int r)) h' := by
  intro l d
  refine AC_of (by decide) (Nat.le_of_ble_eq_true rfl) ?_
  intro G C _ _ q
  unfold f_X5_mark at e
  show AW G lo 0 0 0 [(0, .ref (lo + x0)), (1, .int x1), (2, .ref (lo + x2))] [] h
  refine a_aload_n C dX5_mark_0 rfl 2 rfl ?_
  refine a_bipush (v := (23 : Int32)) C dX5_mark_1 (by decide) ?_
  obtain ⟨u7, ec6, e⟩ := bA_some e
  obtain ⟨fs5, eo4⟩ := isC_some ec6
  obtain ⟨h1, e2, e⟩ := bA_some e
  refine a_callV (as := [.int (23 : Int32)]) (rest := []) C m_X6_add im_X6_add cb5 se_X6_X6_add_X6_add ml_X5_17 rfl (Nat.le_of_ble_eq_true rfl) (Nat.le_of_ble_eq_true rfl) (Nat.le_of_ble_eq_true rfl) (Nat.le_of_ble_eq_true rfl) (Nat.le_of_ble_eq_true rfl) dX5_mark_3 eo4 (k_X6_add e2) rfl ?_
  show AW G lo 0 0 6 [(0, .ref (lo + x0)), (1, .int x1), (2, .ref (lo + x2))] [] h1
  refine a_aload_n C dX5_mark_6 rfl 0 rfl ?_
  refine a_iload_n C dX5_mark_7 rfl 1 rfl ?_
  refine a_aload_n C dX5_mark_8 rfl 2 rfl ?_
  obtain ⟨c16, ec15, e⟩ := bA_some e
  obtain ⟨fs14, eo13, ed17⟩ := gC_some ec15
  obtain ⟨r12, h10, e11, e⟩ := b2_some e
  obtain ⟨_, _, cb_c16⟩ := isD_cb ed17
  refine a_callSU (as := [.int x1, .ref (lo + x2)]) (rest := []) C m_X2_mark (by decide) im_X2_mark cb_c16 sam_X2_X2_mark sup_X5_X2 ml_X5_27 rfl (Nat.le_of_ble_eq_true rfl) (Nat.le_of_ble_eq_true rfl) (Nat.le_of_ble_eq_true rfl) (Nat.le_of_ble_eq_true rfl) (Nat.le_of_ble_eq_true rfl) dX5_mark_9 eo13 (k_X2_mark e11) rfl ?_
  show AW G lo 0 0 12 [(0, .ref (lo + x0)), (1, .int x1), (2, .ref (lo + x2))] [.int r12] h10
  refine a_istore_n (lv2 := [(3, .int r12), (0, .ref (lo + x0)), (1, .int x1), (2, .ref (lo + x2))]) C dX5_mark_12 rfl (by decide) rfl ?_
  refine a_iload_n C dX5_mark_13 rfl 0 rfl ?_
  refine a_aload_n C dX5_mark_14 rfl 1 rfl ?_
  refine a_iload_n C dX5_mark_15 rfl 2 rfl ?_
  refine a_aload_n C dX5_mark_16 rfl 3 rfl ?_
  obtain ⟨c24, ec23, e⟩ := bA_some e
  obtain ⟨fs22, eo21, ed25⟩ := gC_some ec23
  obtain ⟨r20, h18, e19, e⟩ := b2_some e
  refine a_callD (as := [.int x1, .ref (lo + x2)]) (rest := [.int r12]) C (vd_X5_size e19) sam_X5_X5_size du_X5_size (by decide) ml_X5_30 (Nat.le_of_ble_eq_true rfl) (Nat.le_of_ble_eq_true rfl) (Nat.le_of_ble_eq_true rfl) (Nat.le_of_ble_eq_true rfl) (Nat.le_of_ble_eq_true rfl) dX5_mark_17 eo21 rfl ?_
  show AW G lo 0 0 20 [(3, .int r12), (0, .ref (lo + x0)), (1, .int x1), (2, .ref (lo + x2))] [.int r20, .int r12] h18
  refine a_isub C dX5_mark_20 ?_
  obtain ⟨rfl, rfl⟩ := sp2 e
  exact a_iret C q (Nat.le_of_ble_eq_true rfl) (Nat.le_of_ble_eq_true rfl) dX5_mark_21

def v_X2_sort (c : Nat) (h : Hp) (x0 : Nat) : Option (Int32 × Hp) :=
  if c = 0 then f_X0_sort h x0 else if c = 1 then f_X1_sort h x0 else if c = 3 then f_X4_sort h x0 else if c = 4 then f_X5_sort h x0 else if c = 8 then f_X9_sort h x0 else none
theorem vd_X2_sort {c lo : Nat} {h : Hp} {x0 : Nat} {r : Int32} {h2 : Hp} (e : v_X2_sort c h x0 = some (r, h2)) : VD ⟨RX2, "sort", "()I"⟩ c lo ({ frames := 0, cells := 0, slots := 0, locals := 0 } : Room) [] h x0 (some (.int r)) h2 := by
  unfold v_X2_sort at e
  by_cases q0 : c = 0
  · have e := ip q0 e
    subst q0
    exact ⟨_, _, _, _, _, _, _, _, _, cb0, m_X0_sort, im_X0_sort, se_X0_X2_sort_X0_sort, rfl, rfl, by decide, kv_X0_sort e⟩
  have e := iN q0 e
  by_cases q1 : c = 1
  · have e := ip q1 e
    subst q1
    exact ⟨_, _, _, _, _, _, _, _, _, cb1, m_X1_sort, im_X1_sort, se_X1_X2_sort_X1_sort, rfl, rfl, by decide, kv_X1_sort e⟩
  have e := iN q1 e
  by_cases q3 : c = 3
  · have e := ip q3 e
    subst q3
    exact ⟨_, _, _, _, _, _, _, _, _, cb3, m_X4_sort, im_X4_sort, se_X4_X2_sort_X4_sort, rfl, rfl, by decide, kv_X4_sort e⟩
  have e := iN q3 e
  by_cases q4 : c = 4
  · have e := ip q4 e
    subst q4
    exact ⟨_, _, _, _, _, _, _, _, _, cb4, m_X5_sort, im_X5_sort, se_X5_X2_sort_X5_sort, rfl, rfl, by decide, kv_X5_sort e⟩
  have e := iN q4 e
  by_cases q8 : c = 8
  · have e := ip q8 e
    subst q8
    exact ⟨_, _, _, _, _, _, _, _, _, cb8, m_X9_sort, im_X9_sort, se_X9_X2_sort_X9_sort, rfl, rfl, by decide, kv_X9_sort e⟩
  have e := iN q8 e
  cases e
theorem du_X2_sort : DU ⟨RX2, "sort", "()I"⟩ := Or.inl (by simp [bwN])

def v_X2_loud (c : Nat) (h : Hp) (x0 : Nat) (x1 : Int32) : Option (Int32 × Hp) :=
  if c = 0 then f_X0_loud h x0 x1 else if c = 1 then f_X1_loud h x0 x1 else if c = 3 then f_X4_loud h x0 x1 else if c = 4 then f_X5_loud h x0 x1 else if c = 8 then f_X5_loud h x0 x1 else none
theorem vd_X2_loud {c lo : Nat} {h : Hp} {x0 : Nat} {x1 : Int32} {r : Int32} {h2 : Hp} (e : v_X2_loud c h x0 x1 = some (r, h2)) : VD ⟨RX2, "loud", "(I)I"⟩ c lo ({ frames := 0, cells := 0, slots := 0, locals := 0 } : Room) [.int x1] h x0 (some (.int r)) h2 := by
  unfold v_X2_loud at e
  by_cases q0 : c = 0
  · have e := ip q0 e
    subst q0
    exact ⟨_, _, _, _, _, _, _, _, _, cb0, m_X0_loud, im_X0_loud, se_X0_X2_loud_X0_loud, rfl, rfl, by decide, kv_X0_loud e⟩
  have e := iN q0 e
  by_cases q1 : c = 1
  · have e := ip q1 e
    subst q1
    exact ⟨_, _, _, _, _, _, _, _, _, cb1, m_X1_loud, im_X1_loud, se_X1_X2_loud_X1_loud, rfl, rfl, by decide, kv_X1_loud e⟩
  have e := iN q1 e
  by_cases q3 : c = 3
  · have e := ip q3 e
    subst q3
    exact ⟨_, _, _, _, _, _, _, _, _, cb3, m_X4_loud, im_X4_loud, se_X4_X2_loud_X4_loud, rfl, rfl, by decide, kv_X4_loud e⟩
  have e := iN q3 e
  by_cases q4 : c = 4
  · have e := ip q4 e
    subst q4
    exact ⟨_, _, _, _, _, _, _, _, _, cb4, m_X5_loud, im_X5_loud, se_X5_X2_loud_X5_loud, rfl, rfl, by decide, kv_X5_loud e⟩
  have e := iN q4 e
  by_cases q8 : c = 8
  · have e := ip q8 e
    subst q8
    exact ⟨_, _, _, _, _, _, _, _, _, cb8, m_X5_loud, im_X5_loud, se_X9_X2_loud_X5_loud, rfl, rfl, by decide, kv_X5_loud e⟩
  have e := iN q8 e
  cases e
theorem du_X2_loud : DU ⟨RX2, "loud", "(I)I"⟩ := Or.inl (by simp [bwN])

def v_X2_gap (c : Nat) (h : Hp) (x0 : Nat) : Option (Int32 × Hp) :=
  if c = 0 then f_X0_gap h x0 else if c = 1 then f_X2_gap h x0 else if c = 3 then f_X2_gap h x0 else if c = 4 then f_X2_gap h x0 else if c = 8 then f_X9_gap h x0 else none
theorem vd_X2_gap {c lo : Nat} {h : Hp} {x0 : Nat} {r : Int32} {h2 : Hp} (e : v_X2_gap c h x0 = some (r, h2)) : VD yX2_gap c lo ({ frames := 0, cells := 0, slots := 0, locals := 0 } : Room) [] h x0 (some (.int r)) h2 := by
  unfold v_X2_gap at e
  by_cases q0 : c = 0
  · have e := ip q0 e
    subst q0
    exact ⟨_, _, _, _, _, _, _, _, _, cb0, m_X0_gap, im_X0_gap, se_X0_X2_gap_X0_gap, rfl, rfl, by decide, kv_X0_gap e⟩
  have e := iN q0 e
  by_cases q1 : c = 1
  · have e := ip q1 e
    subst q1
    exact ⟨_, _, _, _, _, _, _, _, _, cb1, m_X2_gap, im_X2_gap, se_X1_X2_gap_X2_gap, rfl, rfl, by decide, kv_X2_gap e⟩
  have e := iN q1 e
  by_cases q3 : c = 3
  · have e := ip q3 e
    subst q3
    exact ⟨_, _, _, _, _, _, _, _, _, cb3, m_X2_gap, im_X2_gap, se_X4_X2_gap_X2_gap, rfl, rfl, by decide, kv_X2_gap e⟩
  have e := iN q3 e
  by_cases q4 : c = 4
  · have e := ip q4 e
    subst q4
    exact ⟨_, _, _, _, _, _, _, _, _, cb4, m_X2_gap, im_X2_gap, se_X5_X2_gap_X2_gap, rfl, rfl, by decide, kv_X2_gap e⟩
  have e := iN q4 e
  by_cases q8 : c = 8
  · have e := ip q8 e
    subst q8
    exact ⟨_, _, _, _, _, _, _, _, _, cb8, m_X9_gap, im_X9_gap, se_X9_X2_gap_X9_gap, rfl, rfl, by decide, kv_X9_gap e⟩
  have e := iN q8 e
  cases e
theorem du_X2_gap : DU yX2_gap := Or.inr ⟨im_X2_gap, _, _, _, co_X2_gap⟩

def v_X2_keyBit (c : Nat) (h : Hp) (x0 : Nat) : Option (Int32 × Hp) :=
  if c = 0 then f_X2_keyBit h x0 else if c = 1 then f_X2_keyBit h x0 else if c = 3 then f_X2_keyBit h x0 else if c = 4 then f_X5_keyBit h x0 else if c = 8 then f_X5_keyBit h x0 else none
theorem vd_X2_keyBit {c lo : Nat} {h : Hp} {x0 : Nat} {r : Int32} {h2 : Hp} (e : v_X2_keyBit c h x0 = some (r, h2)) : VD yX2_keyBit c lo ({ frames := 0, cells := 0, slots := 0, locals := 0 } : Room) [] h x0 (some (.int r)) h2 := by
  unfold v_X2_keyBit at e
  by_cases q0 : c = 0
  · have e := ip q0 e
    subst q0
    exact ⟨_, _, _, _, _, _, _, _, _, cb0, m_X2_keyBit, im_X2_keyBit, se_X0_X2_keyBit_X2_keyBit, rfl, rfl, by decide, kv_X2_keyBit e⟩
  have e := iN q0 e
  by_cases q1 : c = 1
  · have e := ip q1 e
    subst q1
    exact ⟨_, _, _, _, _, _, _, _, _, cb1, m_X2_keyBit, im_X2_keyBit, se_X1_X2_keyBit_X2_keyBit, rfl, rfl, by decide, kv_X2_keyBit e⟩
  have e := iN q1 e
  by_cases q3 : c = 3
  · have e := ip q3 e
    subst q3
    exact ⟨_, _, _, _, _, _, _, _, _, cb3, m_X2_keyBit, im_X2_keyBit, se_X4_X2_keyBit_X2_keyBit, rfl, rfl, by decide, kv_X2_keyBit e⟩
  have e := iN q3 e
  by_cases q4 : c = 4
  · have e := ip q4 e
    subst q4
    exact ⟨_, _, _, _, _, _, _, _, _, cb4, m_X5_keyBit, im_X5_keyBit, se_X5_X2_keyBit_X5_keyBit, rfl, rfl, by decide, kv_X5_keyBit e⟩
  have e := iN q4 e
  by_cases q8 : c = 8
  · have e := ip q8 e
    subst q8
    exact ⟨_, _, _, _, _, _, _, _, _, cb8, m_X5_keyBit, im_X5_keyBit, se_X9_X2_keyBit_X5_keyBit, rfl, rfl, by decide, kv_X5_keyBit e⟩
  have e := iN q8 e
  cases e
theorem du_X2_keyBit : DU yX2_keyBit := Or.inr ⟨im_X2_keyBit, _, _, _, co_X2_keyBit⟩

def v_X2_isBroken (c : Nat) (h : Hp) (x0 : Nat) (x1 : Int32) : Option (Int32 × Hp) :=
  if c = 0 then f_X2_isBroken h x0 x1 else if c = 1 then f_X2_isBroken h x0 x1 else if c = 3 then f_X2_isBroken h x0 x1 else if c = 4 then f_X2_isBroken h x0 x1 else if c = 8 then f_X9_isBroken h x0 x1 else none
theorem vd_X2_isBroken {c lo : Nat} {h : Hp} {x0 : Nat} {x1 : Int32} {r : Int32} {h2 : Hp} (e : v_X2_isBroken c h x0 x1 = some (r, h2)) : VD yX2_isBroken c lo ({ frames := 0, cells := 0, slots := 0, locals := 0 } : Room) [.int x1] h x0 (some (.int r)) h2 := by
  unfold v_X2_isBroken at e
  by_cases q0 : c = 0
  · have e := ip q0 e
    subst q0
    exact ⟨_, _, _, _, _, _, _, _, _, cb0, m_X2_isBroken, im_X2_isBroken, se_X0_X2_isBroken_X2_isBroken, rfl, rfl, by decide, kv_X2_isBroken e⟩
  have e := iN q0 e
  by_cases q1 : c = 1
  · have e := ip q1 e
    subst q1
    exact ⟨_, _, _, _, _, _, _, _, _, cb1, m_X2_isBroken, im_X2_isBroken, se_X1_X2_isBroken_X2_isBroken, rfl, rfl, by decide, kv_X2_isBroken e⟩
  have e := iN q1 e
  by_cases q3 : c = 3
  · have e := ip q3 e
    subst q3
    exact ⟨_, _, _, _, _, _, _, _, _, cb3, m_X2_isBroken, im_X2_isBroken, se_X4_X2_isBroken_X2_isBroken, rfl, rfl, by decide, kv_X2_isBroken e⟩
  have e := iN q3 e
  by_cases q4 : c = 4
  · have e := ip q4 e
    subst q4
    exact ⟨_, _, _, _, _, _, _, _, _, cb4, m_X2_isBroken, im_X2_isBroken, se_X5_X2_isBroken_X2_isBroken, rfl, rfl, by decide, kv_X2_isBroken e⟩
  have e := iN q4 e
  by_cases q8 : c = 8
  · have e := ip q8 e
    subst q8
    exact ⟨_, _, _, _, _, _, _, _, _, cb8, m_X9_isBroken, im_X9_isBroken, se_X9_X2_isBroken_X9_isBroken, rfl, rfl, by decide, kv_X9_isBroken e⟩
  have e := iN q8 e
  cases e
theorem du_X2_isBroken : DU yX2_isBroken := Or.inr ⟨im_X2_isBroken, _, _, _, co_X2_isBroken⟩

def v_X2_leadsFrom (c : Nat) (h : Hp) (x0 : Nat) (x1 : Int32) : Option (Int32 × Hp) :=
  if c = 0 then f_X2_leadsFrom h x0 x1 else if c = 1 then f_X2_leadsFrom h x0 x1 else if c = 3 then f_X2_leadsFrom h x0 x1 else if c = 4 then f_X2_leadsFrom h x0 x1 else if c = 8 then f_X2_leadsFrom h x0 x1 else none
theorem vd_X2_leadsFrom {c lo : Nat} {h : Hp} {x0 : Nat} {x1 : Int32} {r : Int32} {h2 : Hp} (e : v_X2_leadsFrom c h x0 x1 = some (r, h2)) : VD yX2_leadsFrom c lo ({ frames := 0, cells := 0, slots := 0, locals := 0 } : Room) [.int x1] h x0 (some (.int r)) h2 := by
  unfold v_X2_leadsFrom at e
  by_cases q0 : c = 0
  · have e := ip q0 e
    subst q0
    exact ⟨_, _, _, _, _, _, _, _, _, cb0, m_X2_leadsFrom, im_X2_leadsFrom, se_X0_X2_leadsFrom_X2_leadsFrom, rfl, rfl, by decide, kv_X2_leadsFrom e⟩
  have e := iN q0 e
  by_cases q1 : c = 1
  · have e := ip q1 e
    subst q1
    exact ⟨_, _, _, _, _, _, _, _, _, cb1, m_X2_leadsFrom, im_X2_leadsFrom, se_X1_X2_leadsFrom_X2_leadsFrom, rfl, rfl, by decide, kv_X2_leadsFrom e⟩
  have e := iN q1 e
  by_cases q3 : c = 3
  · have e := ip q3 e
    subst q3
    exact ⟨_, _, _, _, _, _, _, _, _, cb3, m_X2_leadsFrom, im_X2_leadsFrom, se_X4_X2_leadsFrom_X2_leadsFrom, rfl, rfl, by decide, kv_X2_leadsFrom e⟩
  have e := iN q3 e
  by_cases q4 : c = 4
  · have e := ip q4 e
    subst q4
    exact ⟨_, _, _, _, _, _, _, _, _, cb4, m_X2_leadsFrom, im_X2_leadsFrom, se_X5_X2_leadsFrom_X2_leadsFrom, rfl, rfl, by decide, kv_X2_leadsFrom e⟩
  have e := iN q4 e
  by_cases q8 : c = 8
  · have e := ip q8 e
    subst q8
    exact ⟨_, _, _, _, _, _, _, _, _, cb8, m_X2_leadsFrom, im_X2_leadsFrom, se_X9_X2_leadsFrom_X2_leadsFrom, rfl, rfl, by decide, kv_X2_leadsFrom e⟩
  have e := iN q8 e
  cases e
theorem du_X2_leadsFrom : DU yX2_leadsFrom := Or.inr ⟨im_X2_leadsFrom, _, _, _, co_X2_leadsFrom⟩

def v_X2_beyond (c : Nat) (h : Hp) (x0 : Nat) (x1 : Int32) : Option (Int32 × Hp) :=
  if c = 0 then f_X2_beyond h x0 x1 else if c = 1 then f_X2_beyond h x0 x1 else if c = 3 then f_X2_beyond h x0 x1 else if c = 4 then f_X2_beyond h x0 x1 else if c = 8 then f_X2_beyond h x0 x1 else none
theorem vd_X2_beyond {c lo : Nat} {h : Hp} {x0 : Nat} {x1 : Int32} {r : Int32} {h2 : Hp} (e : v_X2_beyond c h x0 x1 = some (r, h2)) : VD yX2_beyond c lo ({ frames := 0, cells := 0, slots := 0, locals := 0 } : Room) [.int x1] h x0 (some (.int r)) h2 := by
  unfold v_X2_beyond at e
  by_cases q0 : c = 0
  · have e := ip q0 e
    subst q0
    exact ⟨_, _, _, _, _, _, _, _, _, cb0, m_X2_beyond, im_X2_beyond, se_X0_X2_beyond_X2_beyond, rfl, rfl, by decide, kv_X2_beyond e⟩
  have e := iN q0 e
  by_cases q1 : c = 1
  · have e := ip q1 e
    subst q1
    exact ⟨_, _, _, _, _, _, _, _, _, cb1, m_X2_beyond, im_X2_beyond, se_X1_X2_beyond_X2_beyond, rfl, rfl, by decide, kv_X2_beyond e⟩
  have e := iN q1 e
  by_cases q3 : c = 3
  · have e := ip q3 e
    subst q3
    exact ⟨_, _, _, _, _, _, _, _, _, cb3, m_X2_beyond, im_X2_beyond, se_X4_X2_beyond_X2_beyond, rfl, rfl, by decide, kv_X2_beyond e⟩
  have e := iN q3 e
  by_cases q4 : c = 4
  · have e := ip q4 e
    subst q4
    exact ⟨_, _, _, _, _, _, _, _, _, cb4, m_X2_beyond, im_X2_beyond, se_X5_X2_beyond_X2_beyond, rfl, rfl, by decide, kv_X2_beyond e⟩
  have e := iN q4 e
  by_cases q8 : c = 8
  · have e := ip q8 e
    subst q8
    exact ⟨_, _, _, _, _, _, _, _, _, cb8, m_X2_beyond, im_X2_beyond, se_X9_X2_beyond_X2_beyond, rfl, rfl, by decide, kv_X2_beyond e⟩
  have e := iN q8 e
  cases e
theorem du_X2_beyond : DU yX2_beyond := Or.inr ⟨im_X2_beyond, _, _, _, co_X2_beyond⟩

def v_X2_is (c : Nat) (h : Hp) (x0 : Nat) (x1 : Int32) : Option (Int32 × Hp) :=
  if c = 0 then f_X0_is h x0 x1 else if c = 1 then f_X1_is h x0 x1 else if c = 3 then f_X4_is h x0 x1 else if c = 4 then f_X5_is h x0 x1 else if c = 8 then f_X9_is h x0 x1 else none
theorem vd_X2_is {c lo : Nat} {h : Hp} {x0 : Nat} {x1 : Int32} {r : Int32} {h2 : Hp} (e : v_X2_is c h x0 x1 = some (r, h2)) : VD yX2_is c lo ({ frames := 4, cells := 0, slots := 0, locals := 100 } : Room) [.int x1] h x0 (some (.int r)) h2 := by
  unfold v_X2_is at e
  by_cases q0 : c = 0
  · have e := ip q0 e
    subst q0
    exact ⟨_, _, _, _, _, _, _, _, _, cb0, m_X0_is, im_X0_is, se_X0_X2_is_X0_is, rfl, rfl, by decide, kv_X0_is e⟩
  have e := iN q0 e
  by_cases q1 : c = 1
  · have e := ip q1 e
    subst q1
    exact ⟨_, _, _, _, _, _, _, _, _, cb1, m_X1_is, im_X1_is, se_X1_X2_is_X1_is, rfl, rfl, by decide, kv_X1_is e⟩
  have e := iN q1 e
  by_cases q3 : c = 3
  · have e := ip q3 e
    subst q3
    exact ⟨_, _, _, _, _, _, _, _, _, cb3, m_X4_is, im_X4_is, se_X4_X2_is_X4_is, rfl, rfl, by decide, kv_X4_is e⟩
  have e := iN q3 e
  by_cases q4 : c = 4
  · have e := ip q4 e
    subst q4
    exact ⟨_, _, _, _, _, _, _, _, _, cb4, m_X5_is, im_X5_is, se_X5_X2_is_X5_is, rfl, rfl, by decide, kv_X5_is e⟩
  have e := iN q4 e
  by_cases q8 : c = 8
  · have e := ip q8 e
    subst q8
    exact ⟨_, _, _, _, _, _, _, _, _, cb8, m_X9_is, im_X9_is, se_X9_X2_is_X9_is, rfl, rfl, by decide, kv_X9_is e⟩
  have e := iN q8 e
  cases e
theorem du_X2_is : DU yX2_is := Or.inr ⟨im_X2_is, _, _, _, co_X2_is⟩

def v_X2_size (c : Nat) (h : Hp) (x0 : Nat) (x1 : Int32) (x2 : Nat) : Option (Int32 × Hp) :=
  if c = 0 then f_X0_size h x0 x1 x2 else if c = 1 then f_X4_size h x0 x1 x2 else if c = 3 then f_X4_size h x0 x1 x2 else if c = 4 then f_X5_size h x0 x1 x2 else if c = 8 then f_X9_size h x0 x1 x2 else none
theorem vd_X2_size {c lo : Nat} {h : Hp} {x0 : Nat} {x1 : Int32} {x2 : Nat} {r : Int32} {h2 : Hp} (e : v_X2_size c h x0 x1 x2 = some (r, h2)) : VD yX2_size c lo ({ frames := 8, cells := 0, slots := 0, locals := 300 } : Room) [.int x1, .ref (lo + x2)] h x0 (some (.int r)) h2 := by
  unfold v_X2_size at e
  by_cases q0 : c = 0
  · have e := ip q0 e
    subst q0
    exact ⟨_, _, _, _, _, _, _, _, _, cb0, m_X0_size, im_X0_size, se_X0_X2_size_X0_size, rfl, rfl, by decide, kv_X0_size e⟩
  have e := iN q0 e
  by_cases q1 : c = 1
  · have e := ip q1 e
    subst q1
    exact ⟨_, _, _, _, _, _, _, _, _, cb1, m_X4_size, im_X4_size, se_X1_X2_size_X4_size, rfl, rfl, by decide, kv_X4_size e⟩
  have e := iN q1 e
  by_cases q3 : c = 3
  · have e := ip q3 e
    subst q3
    exact ⟨_, _, _, _, _, _, _, _, _, cb3, m_X4_size, im_X4_size, se_X4_X2_size_X4_size, rfl, rfl, by decide, kv_X4_size e⟩
  have e := iN q3 e
  by_cases q4 : c = 4
  · have e := ip q4 e
    subst q4
    exact ⟨_, _, _, _, _, _, _, _, _, cb4, m_X5_size, im_X5_size, se_X5_X2_size_X5_size, rfl, rfl, by decide, kv_X5_size e⟩
  have e := iN q4 e
  by_cases q8 : c = 8
  · have e := ip q8 e
    subst q8
    exact ⟨_, _, _, _, _, _, _, _, _, cb8, m_X9_size, im_X9_size, se_X9_X2_size_X9_size, rfl, rfl, by decide, kv_X9_size e⟩
  have e := iN q8 e
  cases e
theorem du_X2_size : DU yX2_size := Or.inr ⟨im_X2_size, _, _, _, co_X2_size⟩

def v_X2_mark (c : Nat) (h : Hp) (x0 : Nat) (x1 : Int32) (x2 : Nat) : Option (Int32 × Hp) :=
  if c = 0 then f_X0_mark h x0 x1 x2 else if c = 1 then f_X1_mark h x0 x1 x2 else if c = 3 then f_X4_mark h x0 x1 x2 else if c = 4 then f_X5_mark h x0 x1 x2 else if c = 8 then f_X5_mark h x0 x1 x2 else none
theorem vd_X2_mark {c lo : Nat} {h : Hp} {x0 : Nat} {x1 : Int32} {x2 : Nat} {r : Int32} {h2 : Hp} (e : v_X2_mark c h x0 x1 x2 = some (r, h2)) : VD yX2_mark c lo ({ frames := 8, cells := 0, slots := 0, locals := 300 } : Room) [.int x1, .ref (lo + x2)] h x0 (some (.int r)) h2 := by
  unfold v_X2_mark at e
  by_cases q0 : c = 0
  · have e := ip q0 e
    subst q0
    exact ⟨_, _, _, _, _, _, _, _, _, cb0, m_X0_mark, im_X0_mark, se_X0_X2_mark_X0_mark, rfl, rfl, by decide, kv_X0_mark e⟩
  have e := iN q0 e
  by_cases q1 : c = 1
  · have e := ip q1 e
    subst q1
    exact ⟨_, _, _, _, _, _, _, _, _, cb1, m_X1_mark, im_X1_mark, se_X1_X2_mark_X1_mark, rfl, rfl, by decide, kv_X1_mark e⟩
  have e := iN q1 e
  by_cases q3 : c = 3
  · have e := ip q3 e
    subst q3
    exact ⟨_, _, _, _, _, _, _, _, _, cb3, m_X4_mark, im_X4_mark, se_X4_X2_mark_X4_mark, rfl, rfl, by decide, kv_X4_mark e⟩
  have e := iN q3 e
  by_cases q4 : c = 4
  · have e := ip q4 e
    subst q4
    exact ⟨_, _, _, _, _, _, _, _, _, cb4, m_X5_mark, im_X5_mark, se_X5_X2_mark_X5_mark, rfl, rfl, by decide, kv_X5_mark e⟩
  have e := iN q4 e
  by_cases q8 : c = 8
  · have e := ip q8 e
    subst q8
    exact ⟨_, _, _, _, _, _, _, _, _, cb8, m_X5_mark, im_X5_mark, se_X9_X2_mark_X5_mark, rfl, rfl, by decide, kv_X5_mark e⟩
  have e := iN q8 e
  cases e
theorem du_X2_mark : DU yX2_mark := Or.inr ⟨im_X2_mark, _, _, _, co_X2_mark⟩
