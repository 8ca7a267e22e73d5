set_option maxRecDepth 100000 in
def f_J6_bitCount_0f7a4 (h : Hp) (x0 : Int32) : Option (Int32 × Hp) := some (((((((((x0 - (((x0.toUInt32 >>> ((1 : Int32).toUInt32 &&& Int32.toUInt32 31)).toInt32) &&& (1431655765 : Int32))) &&& (858993459 : Int32)) + ((((x0 - (((x0.toUInt32 >>> ((1 : Int32).toUInt32 &&& Int32.toUInt32 31)).toInt32) &&& (1431655765 : Int32))).toUInt32 >>> ((2 : Int32).toUInt32 &&& Int32.toUInt32 31)).toInt32) &&& (858993459 : Int32))) + (((((x0 - (((x0.toUInt32 >>> ((1 : Int32).toUInt32 &&& Int32.toUInt32 31)).toInt32) &&& (1431655765 : Int32))) &&& (858993459 : Int32)) + ((((x0 - (((x0.toUInt32 >>> ((1 : Int32).toUInt32 &&& Int32.toUInt32 31)).toInt32) &&& (1431655765 : Int32))).toUInt32 >>> ((2 : Int32).toUInt32 &&& Int32.toUInt32 31)).toInt32) &&& (858993459 : Int32))).toUInt32 >>> ((4 : Int32).toUInt32 &&& Int32.toUInt32 31)).toInt32)) &&& (252645135 : Int32)) + (((((((x0 - (((x0.toUInt32 >>> ((1 : Int32).toUInt32 &&& Int32.toUInt32 31)).toInt32) &&& (1431655765 : Int32))) &&& (858993459 : Int32)) + ((((x0 - (((x0.toUInt32 >>> ((1 : Int32).toUInt32 &&& Int32.toUInt32 31)).toInt32) &&& (1431655765 : Int32))).toUInt32 >>> ((2 : Int32).toUInt32 &&& Int32.toUInt32 31)).toInt32) &&& (858993459 : Int32))) + (((((x0 - (((x0.toUInt32 >>> ((1 : Int32).toUInt32 &&& Int32.toUInt32 31)).toInt32) &&& (1431655765 : Int32))) &&& (858993459 : Int32)) + ((((x0 - (((x0.toUInt32 >>> ((1 : Int32).toUInt32 &&& Int32.toUInt32 31)).toInt32) &&& (1431655765 : Int32))).toUInt32 >>> ((2 : Int32).toUInt32 &&& Int32.toUInt32 31)).toInt32) &&& (858993459 : Int32))).toUInt32 >>> ((4 : Int32).toUInt32 &&& Int32.toUInt32 31)).toInt32)) &&& (252645135 : Int32)).toUInt32 >>> ((8 : Int32).toUInt32 &&& Int32.toUInt32 31)).toInt32)) + ((((((((x0 - (((x0.toUInt32 >>> ((1 : Int32).toUInt32 &&& Int32.toUInt32 31)).toInt32) &&& (1431655765 : Int32))) &&& (858993459 : Int32)) + ((((x0 - (((x0.toUInt32 >>> ((1 : Int32).toUInt32 &&& Int32.toUInt32 31)).toInt32) &&& (1431655765 : Int32))).toUInt32 >>> ((2 : Int32).toUInt32 &&& Int32.toUInt32 31)).toInt32) &&& (858993459 : Int32))) + (((((x0 - (((x0.toUInt32 >>> ((1 : Int32).toUInt32 &&& Int32.toUInt32 31)).toInt32) &&& (1431655765 : Int32))) &&& (858993459 : Int32)) + ((((x0 - (((x0.toUInt32 >>> ((1 : Int32).toUInt32 &&& Int32.toUInt32 31)).toInt32) &&& (1431655765 : Int32))).toUInt32 >>> ((2 : Int32).toUInt32 &&& Int32.toUInt32 31)).toInt32) &&& (858993459 : Int32))).toUInt32 >>> ((4 : Int32).toUInt32 &&& Int32.toUInt32 31)).toInt32)) &&& (252645135 : Int32)) + (((((((x0 - (((x0.toUInt32 >>> ((1 : Int32).toUInt32 &&& Int32.toUInt32 31)).toInt32) &&& (1431655765 : Int32))) &&& (858993459 : Int32)) + ((((x0 - (((x0.toUInt32 >>> ((1 : Int32).toUInt32 &&& Int32.toUInt32 31)).toInt32) &&& (1431655765 : Int32))).toUInt32 >>> ((2 : Int32).toUInt32 &&& Int32.toUInt32 31)).toInt32) &&& (858993459 : Int32))) + (((((x0 - (((x0.toUInt32 >>> ((1 : Int32).toUInt32 &&& Int32.toUInt32 31)).toInt32) &&& (1431655765 : Int32))) &&& (858993459 : Int32)) + ((((x0 - (((x0.toUInt32 >>> ((1 : Int32).toUInt32 &&& Int32.toUInt32 31)).toInt32) &&& (1431655765 : Int32))).toUInt32 >>> ((2 : Int32).toUInt32 &&& Int32.toUInt32 31)).toInt32) &&& (858993459 : Int32))).toUInt32 >>> ((4 : Int32).toUInt32 &&& Int32.toUInt32 31)).toInt32)) &&& (252645135 : Int32)).toUInt32 >>> ((8 : Int32).toUInt32 &&& Int32.toUInt32 31)).toInt32)).toUInt32 >>> ((16 : Int32).toUInt32 &&& Int32.toUInt32 31)).toInt32)) &&& (63 : Int32)), h)

theorem m_J6_bitCount_0f7a4 : MI yJ6_bitCount_0f7a4 cJ6_bitCount_0f7a4 1 (some .int) 1 := ⟨co_J6_bitCount_0f7a4, ini_J6, by decide, by decide +kernel⟩
set_option maxRecDepth 100000 in
set_option maxHeartbeats 4000000 in
theorem k_J6_bitCount_0f7a4 {lo : Nat} {h : Hp} {x0 : Int32} {r : Int32} {h' : Hp} (e : f_J6_bitCount_0f7a4 h x0 = some (r, h')) : ∀ l d, AC l d lo yJ6_bitCount_0f7a4 cJ6_bitCount_0f7a4 1 (some .int) ({ frames := 0, cells := 0, slots := 0, locals := 0 } : Room) [.int x0] h (some (.int r)) h' := by
  intro l d
  refine AC_ofF (by decide) (Nat.le_of_ble_eq_true rfl) ?_
  intro G C _ _ q
  unfold f_J6_bitCount_0f7a4 at e
  show AW G lo 0 0 0 [(0, .int x0)] [] h
  refine a_iload_n C dJ6_bitCount_0f7a4_0 rfl 0 rfl ?_
  refine a_iload_n C dJ6_bitCount_0f7a4_1 rfl 0 rfl ?_
  refine a_iconst (v := (1 : Int32)) C dJ6_bitCount_0f7a4_2 (by decide) ?_
  refine a_iushr C dJ6_bitCount_0f7a4_3 ?_
  refine a_ldc_w C ko_J6_265 dJ6_bitCount_0f7a4_4 ?_
  refine a_iand C dJ6_bitCount_0f7a4_7 ?_
  refine a_isub C dJ6_bitCount_0f7a4_8 ?_
  refine a_istore_n (lv2 := [(0, .int (x0 - (((x0.toUInt32 >>> ((1 : Int32).toUInt32 &&& Int32.toUInt32 31)).toInt32) &&& (1431655765 : Int32))))]) C dJ6_bitCount_0f7a4_9 rfl (by decide) rfl ?_
  refine a_iload_n C dJ6_bitCount_0f7a4_10 rfl 0 rfl ?_
  refine a_ldc_w C ko_J6_266 dJ6_bitCount_0f7a4_11 ?_
  refine a_iand C dJ6_bitCount_0f7a4_14 ?_
  refine a_iload_n C dJ6_bitCount_0f7a4_15 rfl 0 rfl ?_
  refine a_iconst (v := (2 : Int32)) C dJ6_bitCount_0f7a4_16 (by decide) ?_
  refine a_iushr C dJ6_bitCount_0f7a4_17 ?_
  refine a_ldc_w C ko_J6_266 dJ6_bitCount_0f7a4_18 ?_
  refine a_iand C dJ6_bitCount_0f7a4_21 ?_
  refine a_iadd C dJ6_bitCount_0f7a4_22 ?_
  refine a_istore_n (lv2 := [(0, .int (((x0 - (((x0.toUInt32 >>> ((1 : Int32).toUInt32 &&& Int32.toUInt32 31)).toInt32) &&& (1431655765 : Int32))) &&& (858993459 : Int32)) + ((((x0 - (((x0.toUInt32 >>> ((1 : Int32).toUInt32 &&& Int32.toUInt32 31)).toInt32) &&& (1431655765 : Int32))).toUInt32 >>> ((2 : Int32).toUInt32 &&& Int32.toUInt32 31)).toInt32) &&& (858993459 : Int32))))]) C dJ6_bitCount_0f7a4_23 rfl (by decide) rfl ?_
  refine a_iload_n C dJ6_bitCount_0f7a4_24 rfl 0 rfl ?_
  refine a_iload_n C dJ6_bitCount_0f7a4_25 rfl 0 rfl ?_
  refine a_iconst (v := (4 : Int32)) C dJ6_bitCount_0f7a4_26 (by decide) ?_
  refine a_iushr C dJ6_bitCount_0f7a4_27 ?_
  refine a_iadd C dJ6_bitCount_0f7a4_28 ?_
  refine a_ldc_w C ko_J6_267 dJ6_bitCount_0f7a4_29 ?_
  refine a_iand C dJ6_bitCount_0f7a4_32 ?_
  refine a_istore_n (lv2 := [(0, .int (((((x0 - (((x0.toUInt32 >>> ((1 : Int32).toUInt32 &&& Int32.toUInt32 31)).toInt32) &&& (1431655765 : Int32))) &&& (858993459 : Int32)) + ((((x0 - (((x0.toUInt32 >>> ((1 : Int32).toUInt32 &&& Int32.toUInt32 31)).toInt32) &&& (1431655765 : Int32))).toUInt32 >>> ((2 : Int32).toUInt32 &&& Int32.toUInt32 31)).toInt32) &&& (858993459 : Int32))) + (((((x0 - (((x0.toUInt32 >>> ((1 : Int32).toUInt32 &&& Int32.toUInt32 31)).toInt32) &&& (1431655765 : Int32))) &&& (858993459 : Int32)) + ((((x0 - (((x0.toUInt32 >>> ((1 : Int32).toUInt32 &&& Int32.toUInt32 31)).toInt32) &&& (1431655765 : Int32))).toUInt32 >>> ((2 : Int32).toUInt32 &&& Int32.toUInt32 31)).toInt32) &&& (858993459 : Int32))).toUInt32 >>> ((4 : Int32).toUInt32 &&& Int32.toUInt32 31)).toInt32)) &&& (252645135 : Int32)))]) C dJ6_bitCount_0f7a4_33 rfl (by decide) rfl ?_
  refine a_iload_n C dJ6_bitCount_0f7a4_34 rfl 0 rfl ?_
  refine a_iload_n C dJ6_bitCount_0f7a4_35 rfl 0 rfl ?_
  refine a_bipush (v := (8 : Int32)) C dJ6_bitCount_0f7a4_36 (by decide) ?_
  refine a_iushr C dJ6_bitCount_0f7a4_38 ?_
  refine a_iadd C dJ6_bitCount_0f7a4_39 ?_
  refine a_istore_n (lv2 := [(0, .int ((((((x0 - (((x0.toUInt32 >>> ((1 : Int32).toUInt32 &&& Int32.toUInt32 31)).toInt32) &&& (1431655765 : Int32))) &&& (858993459 : Int32)) + ((((x0 - (((x0.toUInt32 >>> ((1 : Int32).toUInt32 &&& Int32.toUInt32 31)).toInt32) &&& (1431655765 : Int32))).toUInt32 >>> ((2 : Int32).toUInt32 &&& Int32.toUInt32 31)).toInt32) &&& (858993459 : Int32))) + (((((x0 - (((x0.toUInt32 >>> ((1 : Int32).toUInt32 &&& Int32.toUInt32 31)).toInt32) &&& (1431655765 : Int32))) &&& (858993459 : Int32)) + ((((x0 - (((x0.toUInt32 >>> ((1 : Int32).toUInt32 &&& Int32.toUInt32 31)).toInt32) &&& (1431655765 : Int32))).toUInt32 >>> ((2 : Int32).toUInt32 &&& Int32.toUInt32 31)).toInt32) &&& (858993459 : Int32))).toUInt32 >>> ((4 : Int32).toUInt32 &&& Int32.toUInt32 31)).toInt32)) &&& (252645135 : Int32)) + (((((((x0 - (((x0.toUInt32 >>> ((1 : Int32).toUInt32 &&& Int32.toUInt32 31)).toInt32) &&& (1431655765 : Int32))) &&& (858993459 : Int32)) + ((((x0 - (((x0.toUInt32 >>> ((1 : Int32).toUInt32 &&& Int32.toUInt32 31)).toInt32) &&& (1431655765 : Int32))).toUInt32 >>> ((2 : Int32).toUInt32 &&& Int32.toUInt32 31)).toInt32) &&& (858993459 : Int32))) + (((((x0 - (((x0.toUInt32 >>> ((1 : Int32).toUInt32 &&& Int32.toUInt32 31)).toInt32) &&& (1431655765 : Int32))) &&& (858993459 : Int32)) + ((((x0 - (((x0.toUInt32 >>> ((1 : Int32).toUInt32 &&& Int32.toUInt32 31)).toInt32) &&& (1431655765 : Int32))).toUInt32 >>> ((2 : Int32).toUInt32 &&& Int32.toUInt32 31)).toInt32) &&& (858993459 : Int32))).toUInt32 >>> ((4 : Int32).toUInt32 &&& Int32.toUInt32 31)).toInt32)) &&& (252645135 : Int32)).toUInt32 >>> ((8 : Int32).toUInt32 &&& Int32.toUInt32 31)).toInt32)))]) C dJ6_bitCount_0f7a4_40 rfl (by decide) rfl ?_
  refine a_iload_n C dJ6_bitCount_0f7a4_41 rfl 0 rfl ?_
  refine a_iload_n C dJ6_bitCount_0f7a4_42 rfl 0 rfl ?_
  refine a_bipush (v := (16 : Int32)) C dJ6_bitCount_0f7a4_43 (by decide) ?_
  refine a_iushr C dJ6_bitCount_0f7a4_45 ?_
  refine a_iadd C dJ6_bitCount_0f7a4_46 ?_
  refine a_istore_n (lv2 := [(0, .int (((((((x0 - (((x0.toUInt32 >>> ((1 : Int32).toUInt32 &&& Int32.toUInt32 31)).toInt32) &&& (1431655765 : Int32))) &&& (858993459 : Int32)) + ((((x0 - (((x0.toUInt32 >>> ((1 : Int32).toUInt32 &&& Int32.toUInt32 31)).toInt32) &&& (1431655765 : Int32))).toUInt32 >>> ((2 : Int32).toUInt32 &&& Int32.toUInt32 31)).toInt32) &&& (858993459 : Int32))) + (((((x0 - (((x0.toUInt32 >>> ((1 : Int32).toUInt32 &&& Int32.toUInt32 31)).toInt32) &&& (1431655765 : Int32))) &&& (858993459 : Int32)) + ((((x0 - (((x0.toUInt32 >>> ((1 : Int32).toUInt32 &&& Int32.toUInt32 31)).toInt32) &&& (1431655765 : Int32))).toUInt32 >>> ((2 : Int32).toUInt32 &&& Int32.toUInt32 31)).toInt32) &&& (858993459 : Int32))).toUInt32 >>> ((4 : Int32).toUInt32 &&& Int32.toUInt32 31)).toInt32)) &&& (252645135 : Int32)) + (((((((x0 - (((x0.toUInt32 >>> ((1 : Int32).toUInt32 &&& Int32.toUInt32 31)).toInt32) &&& (1431655765 : Int32))) &&& (858993459 : Int32)) + ((((x0 - (((x0.toUInt32 >>> ((1 : Int32).toUInt32 &&& Int32.toUInt32 31)).toInt32) &&& (1431655765 : Int32))).toUInt32 >>> ((2 : Int32).toUInt32 &&& Int32.toUInt32 31)).toInt32) &&& (858993459 : Int32))) + (((((x0 - (((x0.toUInt32 >>> ((1 : Int32).toUInt32 &&& Int32.toUInt32 31)).toInt32) &&& (1431655765 : Int32))) &&& (858993459 : Int32)) + ((((x0 - (((x0.toUInt32 >>> ((1 : Int32).toUInt32 &&& Int32.toUInt32 31)).toInt32) &&& (1431655765 : Int32))).toUInt32 >>> ((2 : Int32).toUInt32 &&& Int32.toUInt32 31)).toInt32) &&& (858993459 : Int32))).toUInt32 >>> ((4 : Int32).toUInt32 &&& Int32.toUInt32 31)).toInt32)) &&& (252645135 : Int32)).toUInt32 >>> ((8 : Int32).toUInt32 &&& Int32.toUInt32 31)).toInt32)) + ((((((((x0 - (((x0.toUInt32 >>> ((1 : Int32).toUInt32 &&& Int32.toUInt32 31)).toInt32) &&& (1431655765 : Int32))) &&& (858993459 : Int32)) + ((((x0 - (((x0.toUInt32 >>> ((1 : Int32).toUInt32 &&& Int32.toUInt32 31)).toInt32) &&& (1431655765 : Int32))).toUInt32 >>> ((2 : Int32).toUInt32 &&& Int32.toUInt32 31)).toInt32) &&& (858993459 : Int32))) + (((((x0 - (((x0.toUInt32 >>> ((1 : Int32).toUInt32 &&& Int32.toUInt32 31)).toInt32) &&& (1431655765 : Int32))) &&& (858993459 : Int32)) + ((((x0 - (((x0.toUInt32 >>> ((1 : Int32).toUInt32 &&& Int32.toUInt32 31)).toInt32) &&& (1431655765 : Int32))).toUInt32 >>> ((2 : Int32).toUInt32 &&& Int32.toUInt32 31)).toInt32) &&& (858993459 : Int32))).toUInt32 >>> ((4 : Int32).toUInt32 &&& Int32.toUInt32 31)).toInt32)) &&& (252645135 : Int32)) + (((((((x0 - (((x0.toUInt32 >>> ((1 : Int32).toUInt32 &&& Int32.toUInt32 31)).toInt32) &&& (1431655765 : Int32))) &&& (858993459 : Int32)) + ((((x0 - (((x0.toUInt32 >>> ((1 : Int32).toUInt32 &&& Int32.toUInt32 31)).toInt32) &&& (1431655765 : Int32))).toUInt32 >>> ((2 : Int32).toUInt32 &&& Int32.toUInt32 31)).toInt32) &&& (858993459 : Int32))) + (((((x0 - (((x0.toUInt32 >>> ((1 : Int32).toUInt32 &&& Int32.toUInt32 31)).toInt32) &&& (1431655765 : Int32))) &&& (858993459 : Int32)) + ((((x0 - (((x0.toUInt32 >>> ((1 : Int32).toUInt32 &&& Int32.toUInt32 31)).toInt32) &&& (1431655765 : Int32))).toUInt32 >>> ((2 : Int32).toUInt32 &&& Int32.toUInt32 31)).toInt32) &&& (858993459 : Int32))).toUInt32 >>> ((4 : Int32).toUInt32 &&& Int32.toUInt32 31)).toInt32)) &&& (252645135 : Int32)).toUInt32 >>> ((8 : Int32).toUInt32 &&& Int32.toUInt32 31)).toInt32)).toUInt32 >>> ((16 : Int32).toUInt32 &&& Int32.toUInt32 31)).toInt32)))]) C dJ6_bitCount_0f7a4_47 rfl (by decide) rfl ?_
  refine a_iload_n C dJ6_bitCount_0f7a4_48 rfl 0 rfl ?_
  refine a_bipush (v := (63 : Int32)) C dJ6_bitCount_0f7a4_49 (by decide) ?_
  refine a_iand C dJ6_bitCount_0f7a4_51 ?_
  obtain ⟨rfl, rfl⟩ := sp2 e
  exact a_iret C q (Nat.le_of_ble_eq_true rfl) (Nat.le_of_ble_eq_true rfl) dJ6_bitCount_0f7a4_52

set_option maxRecDepth 100000 in
def f_X11_row (h : Hp) (x0 : Nat) (x1 : Int32) (x2 : Int32) (x3 : Int32) : Option (Int32 × Hp) := b2 (f_X11_lacksRow h x1) fun r3 h1 => (if r3 = 0 then (if x2 < 0 then some ((-1000001 : Int32), h1) else (if (2 : Int32) < x2 then some ((-1000001 : Int32), h1) else (if x3 ≤ (40 : Int32) then (if 0 ≤ x3 then bA (gN h1 x0 10 0) fun a15 => bA (aldn h1 a15 2 x1) fun a17 => bA (isC h1 a17 7) fun u24 => bA (f_X8_begin h1 a17 x2 x3) fun h18 => bA (isC h18 x0 10) fun u33 => b2 (f_X11_well h18 x0 x3) fun r29 h27 => some (r29, h27) else bA (isC h1 x0 10) fun u42 => b2 (f_X11_found h1 x0 (4 : Int32)) fun r38 h36 => some (r38, h36)) else some ((-1000001 : Int32), h1)))) else some ((-1000001 : Int32), h1))

theorem m_X11_row : MI yX11_row cX11_row 4 (some .int) 3 := ⟨co_X11_row, ini_X11, by decide, by decide +kernel⟩
set_option maxRecDepth 100000 in
set_option maxHeartbeats 4000000 in
theorem k_X11_row {lo : Nat} {h : Hp} {x0 : Nat} {x1 : Int32} {x2 : Int32} {x3 : Int32} {r : Int32} {h' : Hp} (e : f_X11_row h x0 x1 x2 x3 = some (r, h')) : ∀ l d, AC l d lo yX11_row cX11_row 4 (some .int) ({ frames := 2, cells := 0, slots := 0, locals := 47 } : Room) [.ref (lo + x0), .int x1, .int x2, .int x3] h (some (.int r)) h' := by
  intro l d
  refine AC_of (by decide) (Nat.le_of_ble_eq_true rfl) ?_
  intro G C _ _ q
  unfold f_X11_row at e
  show AW G lo 0 0 0 [(0, .ref (lo + x0)), (1, .int x1), (2, .int x2), (3, .int x3)] [] h
  refine a_iload_n C dX11_row_0 rfl 1 rfl ?_
  obtain ⟨r3, h1, e2, e⟩ := b2_some e
  refine a_callS (as := [.int x1]) (rest := []) C m_X11_lacksRow sm_X11_lacksRow ml_X11_71 rfl (Nat.le_of_ble_eq_true rfl) (Nat.le_of_ble_eq_true rfl) (Nat.le_of_ble_eq_true rfl) (Nat.le_of_ble_eq_true rfl) (Nat.le_of_ble_eq_true rfl) dX11_row_1 (k_X11_lacksRow e2) rfl ?_
  show AW G lo 0 0 4 [(0, .ref (lo + x0)), (1, .int x1), (2, .int x2), (3, .int x3)] [.int r3] h1
  refine a_if_ne (tgt := 22) C dX11_row_4 (by decide) (fun c9 => ?_) (fun c9 => ?_)
  · have e := iN c9 e
    refine a_ldc C ko_X11_75 dX11_row_22 ?_
    obtain ⟨rfl, rfl⟩ := sp2 e
    exact a_iret C q (Nat.le_of_ble_eq_true rfl) (Nat.le_of_ble_eq_true rfl) dX11_row_24
  · have e := ip c9 e
    refine a_iload_n C dX11_row_7 rfl 2 rfl ?_
    refine a_if_lt (tgt := 22) C dX11_row_8 (by decide) (fun c10 => ?_) (fun c10 => ?_)
    · have e := ip c10 e
      refine a_ldc C ko_X11_75 dX11_row_22 ?_
      obtain ⟨rfl, rfl⟩ := sp2 e
      exact a_iret C q (Nat.le_of_ble_eq_true rfl) (Nat.le_of_ble_eq_true rfl) dX11_row_24
    · have e := iN c10 e
      refine a_iload_n C dX11_row_11 rfl 2 rfl ?_
      refine a_iconst (v := (2 : Int32)) C dX11_row_12 (by decide) ?_
      refine a_icmp_gt (tgt := 22) C dX11_row_13 (by decide) (fun c11 => ?_) (fun c11 => ?_)
      · have e := ip c11 e
        refine a_ldc C ko_X11_75 dX11_row_22 ?_
        obtain ⟨rfl, rfl⟩ := sp2 e
        exact a_iret C q (Nat.le_of_ble_eq_true rfl) (Nat.le_of_ble_eq_true rfl) dX11_row_24
      · have e := iN c11 e
        refine a_iload_n C dX11_row_16 rfl 3 rfl ?_
        refine a_bipush (v := (40 : Int32)) C dX11_row_17 (by decide) ?_
        refine a_icmp_le (tgt := 25) C dX11_row_19 (by decide) (fun c12 => ?_) (fun c12 => ?_)
        · have e := ip c12 e
          refine a_iload_n C dX11_row_25 rfl 3 rfl ?_
          refine a_if_ge (tgt := 35) C dX11_row_26 (by decide) (fun c13 => ?_) (fun c13 => ?_)
          · have e := ip c13 e
            refine a_aload_n C dX11_row_35 rfl 0 rfl ?_
            obtain ⟨a15, e14, e⟩ := bA_some e
            refine a_getN C cb10 0 (by decide) fl_X11_11 rfl dX11_row_36 e14 ?_
            refine a_iload_n C dX11_row_39 rfl 1 rfl ?_
            obtain ⟨a17, e16, e⟩ := bA_some e
            refine a_aldn C (by decide) dX11_row_40 e16 ?_
            refine a_iload_n C dX11_row_41 rfl 2 rfl ?_
            refine a_iload_n C dX11_row_42 rfl 3 rfl ?_
            obtain ⟨u24, ec23, e⟩ := bA_some e
            obtain ⟨fs22, eo21⟩ := isC_some ec23
            obtain ⟨h18, e19, e⟩ := bA_some e
            refine a_callV (as := [.int x2, .int x3]) (rest := []) C m_X8_begin im_X8_begin cb7 se_X8_X8_begin_X8_begin ml_X11_80 rfl (Nat.le_of_ble_eq_true rfl) (Nat.le_of_ble_eq_true rfl) (Nat.le_of_ble_eq_true rfl) (Nat.le_of_ble_eq_true rfl) (Nat.le_of_ble_eq_true rfl) dX11_row_43 eo21 (k_X8_begin e19) rfl ?_
            show AW G lo 0 0 46 [(0, .ref (lo + x0)), (1, .int x1), (2, .int x2), (3, .int x3)] [] h18
            refine a_aload_n C dX11_row_46 rfl 0 rfl ?_
            refine a_iload_n C dX11_row_47 rfl 3 rfl ?_
            obtain ⟨u33, ec32, e⟩ := bA_some e
            obtain ⟨fs31, eo30⟩ := isC_some ec32
            obtain ⟨r29, h27, e28, e⟩ := b2_some e
            refine a_callV (as := [.int x3]) (rest := []) C m_X11_well im_X11_well cb10 se_X11_X11_well_X11_well ml_X11_84 rfl (Nat.le_of_ble_eq_true rfl) (Nat.le_of_ble_eq_true rfl) (Nat.le_of_ble_eq_true rfl) (Nat.le_of_ble_eq_true rfl) (Nat.le_of_ble_eq_true rfl) dX11_row_48 eo30 (k_X11_well e28) rfl ?_
            show AW G lo 0 0 51 [(0, .ref (lo + x0)), (1, .int x1), (2, .int x2), (3, .int x3)] [.int r29] h27
            obtain ⟨rfl, rfl⟩ := sp2 e
            exact a_iret C q (Nat.le_of_ble_eq_true rfl) (Nat.le_of_ble_eq_true rfl) dX11_row_51
          · have e := iN c13 e
            refine a_aload_n C dX11_row_29 rfl 0 rfl ?_
            refine a_iconst (v := (4 : Int32)) C dX11_row_30 (by decide) ?_
            obtain ⟨u42, ec41, e⟩ := bA_some e
            obtain ⟨fs40, eo39⟩ := isC_some ec41
            obtain ⟨r38, h36, e37, e⟩ := b2_some e
            refine a_callV (as := [.int (4 : Int32)]) (rest := []) C m_X11_found im_X11_found cb10 se_X11_X11_found_X11_found ml_X11_76 rfl (Nat.le_of_ble_eq_true rfl) (Nat.le_of_ble_eq_true rfl) (Nat.le_of_ble_eq_true rfl) (Nat.le_of_ble_eq_true rfl) (Nat.le_of_ble_eq_true rfl) dX11_row_31 eo39 (k_X11_found e37) rfl ?_
            show AW G lo 0 0 34 [(0, .ref (lo + x0)), (1, .int x1), (2, .int x2), (3, .int x3)] [.int r38] h36
            obtain ⟨rfl, rfl⟩ := sp2 e
            exact a_iret C q (Nat.le_of_ble_eq_true rfl) (Nat.le_of_ble_eq_true rfl) dX11_row_34
        · have e := iN c12 e
          refine a_ldc C ko_X11_75 dX11_row_22 ?_
          obtain ⟨rfl, rfl⟩ := sp2 e
          exact a_iret C q (Nat.le_of_ble_eq_true rfl) (Nat.le_of_ble_eq_true rfl) dX11_row_24

set_option maxRecDepth 100000 in
def f_X11_set (h : Hp) (x0 : Nat) (x1 : Int32) (x2 : Int32) (x3 : Int32) : Option (Int32 × Hp) := b2 (f_X11_lacksRow h x1) fun r3 h1 => (if r3 = 0 then bA (gN h1 x0 10 0) fun a11 => bA (aldn h1 a11 2 x1) fun a13 => bA (isC h1 a13 7) fun u20 => b2 (f_X8_isMissing h1 a13 ) fun r16 h14 => (if r16 = 0 then bA (isC h14 a13 7) fun u30 => b2 (f_X8_holds h14 a13 x2 (1 : Int32)) fun r26 h24 => (if r26 = 0 then bA (isC h24 x0 10) fun u58 => b2 (f_X11_found h24 x0 (2 : Int32)) fun r54 h52 => some (r54, h52) else bA (isC h24 a13 7) fun u40 => b2 (f_X8_put h24 a13 x2 x3) fun r36 h34 => bA (isC h34 x0 10) fun u49 => b2 (f_X11_well h34 x0 r36) fun r45 h43 => some (r45, h43)) else bA (isC h14 x0 10) fun u67 => b2 (f_X11_found h14 x0 (1 : Int32)) fun r63 h61 => some (r63, h61)) else some ((-1000001 : Int32), h1))

theorem m_X11_set : MI yX11_set cX11_set 5 (some .int) 3 := ⟨co_X11_set, ini_X11, by decide, by decide +kernel⟩
set_option maxRecDepth 100000 in
set_option maxHeartbeats 4000000 in
theorem k_X11_set {lo : Nat} {h : Hp} {x0 : Nat} {x1 : Int32} {x2 : Int32} {x3 : Int32} {r : Int32} {h' : Hp} (e : f_X11_set h x0 x1 x2 x3 = some (r, h')) : ∀ l d, AC l d lo yX11_set cX11_set 5 (some .int) ({ frames := 2, cells := 0, slots := 0, locals := 45 } : Room) [.ref (lo + x0), .int x1, .int x2, .int x3] h (some (.int r)) h' := by
  intro l d
  refine AC_of (by decide) (Nat.le_of_ble_eq_true rfl) ?_
  intro G C _ _ q
  unfold f_X11_set at e
  show AW G lo 0 0 0 [(0, .ref (lo + x0)), (1, .int x1), (2, .int x2), (3, .int x3)] [] h
  refine a_iload_n C dX11_set_0 rfl 1 rfl ?_
  obtain ⟨r3, h1, e2, e⟩ := b2_some e
  refine a_callS (as := [.int x1]) (rest := []) C m_X11_lacksRow sm_X11_lacksRow ml_X11_71 rfl (Nat.le_of_ble_eq_true rfl) (Nat.le_of_ble_eq_true rfl) (Nat.le_of_ble_eq_true rfl) (Nat.le_of_ble_eq_true rfl) (Nat.le_of_ble_eq_true rfl) dX11_set_1 (k_X11_lacksRow e2) rfl ?_
  show AW G lo 0 0 4 [(0, .ref (lo + x0)), (1, .int x1), (2, .int x2), (3, .int x3)] [.int r3] h1
  refine a_if_eq (tgt := 10) C dX11_set_4 (by decide) (fun c9 => ?_) (fun c9 => ?_)
  · have e := ip c9 e
    refine a_aload_n C dX11_set_10 rfl 0 rfl ?_
    obtain ⟨a11, e10, e⟩ := bA_some e
    refine a_getN C cb10 0 (by decide) fl_X11_11 rfl dX11_set_11 e10 ?_
    refine a_iload_n C dX11_set_14 rfl 1 rfl ?_
    obtain ⟨a13, e12, e⟩ := bA_some e
    refine a_aldn C (by decide) dX11_set_15 e12 ?_
    refine a_astore (lv2 := [(4, .ref (lo + a13)), (0, .ref (lo + x0)), (1, .int x1), (2, .int x2), (3, .int x3)]) C dX11_set_16 (by decide) rfl ?_
    refine a_aload C dX11_set_18 0 rfl ?_
    obtain ⟨u20, ec19, e⟩ := bA_some e
    obtain ⟨fs18, eo17⟩ := isC_some ec19
    obtain ⟨r16, h14, e15, e⟩ := b2_some e
    refine a_callV (as := []) (rest := []) C m_X8_isMissing im_X8_isMissing cb7 se_X8_X8_isMissing_X8_isMissing ml_X11_87 rfl (Nat.le_of_ble_eq_true rfl) (Nat.le_of_ble_eq_true rfl) (Nat.le_of_ble_eq_true rfl) (Nat.le_of_ble_eq_true rfl) (Nat.le_of_ble_eq_true rfl) dX11_set_20 eo17 (k_X8_isMissing e15) rfl ?_
    show AW G lo 0 0 23 [(4, .ref (lo + a13)), (0, .ref (lo + x0)), (1, .int x1), (2, .int x2), (3, .int x3)] [.int r16] h14
    refine a_if_eq (tgt := 32) C dX11_set_23 (by decide) (fun c23 => ?_) (fun c23 => ?_)
    · have e := ip c23 e
      refine a_aload C dX11_set_32 0 rfl ?_
      refine a_iload_n C dX11_set_34 rfl 3 rfl ?_
      refine a_iconst (v := (1 : Int32)) C dX11_set_35 (by decide) ?_
      obtain ⟨u30, ec29, e⟩ := bA_some e
      obtain ⟨fs28, eo27⟩ := isC_some ec29
      obtain ⟨r26, h24, e25, e⟩ := b2_some e
      refine a_callV (as := [.int x2, .int (1 : Int32)]) (rest := []) C m_X8_holds im_X8_holds cb7 se_X8_X8_holds_X8_holds ml_X11_91 rfl (Nat.le_of_ble_eq_true rfl) (Nat.le_of_ble_eq_true rfl) (Nat.le_of_ble_eq_true rfl) (Nat.le_of_ble_eq_true rfl) (Nat.le_of_ble_eq_true rfl) dX11_set_36 eo27 (k_X8_holds e25) rfl ?_
      show AW G lo 0 0 39 [(4, .ref (lo + a13)), (0, .ref (lo + x0)), (1, .int x1), (2, .int x2), (3, .int x3)] [.int r26] h24
      refine a_if_ne (tgt := 48) C dX11_set_39 (by decide) (fun c33 => ?_) (fun c33 => ?_)
      · have e := iN c33 e
        refine a_aload_n C dX11_set_48 rfl 1 rfl ?_
        refine a_aload C dX11_set_49 0 rfl ?_
        refine a_iload_n C dX11_set_51 rfl 3 rfl ?_
        refine a_iload_n C dX11_set_52 rfl 4 rfl ?_
        obtain ⟨u40, ec39, e⟩ := bA_some e
        obtain ⟨fs38, eo37⟩ := isC_some ec39
        obtain ⟨r36, h34, e35, e⟩ := b2_some e
        refine a_callV (as := [.int x2, .int x3]) (rest := [.ref (lo + x0)]) C m_X8_put im_X8_put cb7 se_X8_X8_put_X8_put ml_X11_95 rfl (Nat.le_of_ble_eq_true rfl) (Nat.le_of_ble_eq_true rfl) (Nat.le_of_ble_eq_true rfl) (Nat.le_of_ble_eq_true rfl) (Nat.le_of_ble_eq_true rfl) dX11_set_53 eo37 (k_X8_put e35) rfl ?_
        show AW G lo 0 0 56 [(4, .ref (lo + a13)), (0, .ref (lo + x0)), (1, .int x1), (2, .int x2), (3, .int x3)] [.int r36, .ref (lo + x0)] h34
        obtain ⟨u49, ec48, e⟩ := bA_some e
        obtain ⟨fs47, eo46⟩ := isC_some ec48
        obtain ⟨r45, h43, e44, e⟩ := b2_some e
        refine a_callV (as := [.int r36]) (rest := []) C m_X11_well im_X11_well cb10 se_X11_X11_well_X11_well ml_X11_84 rfl (Nat.le_of_ble_eq_true rfl) (Nat.le_of_ble_eq_true rfl) (Nat.le_of_ble_eq_true rfl) (Nat.le_of_ble_eq_true rfl) (Nat.le_of_ble_eq_true rfl) dX11_set_56 eo46 (k_X11_well e44) rfl ?_
        show AW G lo 0 0 59 [(4, .ref (lo + a13)), (0, .ref (lo + x0)), (1, .int x1), (2, .int x2), (3, .int x3)] [.int r45] h43
        obtain ⟨rfl, rfl⟩ := sp2 e
        exact a_iret C q (Nat.le_of_ble_eq_true rfl) (Nat.le_of_ble_eq_true rfl) dX11_set_59
      · have e := ip c33 e
        refine a_aload_n C dX11_set_42 rfl 1 rfl ?_
        refine a_iconst (v := (2 : Int32)) C dX11_set_43 (by decide) ?_
        obtain ⟨u58, ec57, e⟩ := bA_some e
        obtain ⟨fs56, eo55⟩ := isC_some ec57
        obtain ⟨r54, h52, e53, e⟩ := b2_some e
        refine a_callV (as := [.int (2 : Int32)]) (rest := []) C m_X11_found im_X11_found cb10 se_X11_X11_found_X11_found ml_X11_76 rfl (Nat.le_of_ble_eq_true rfl) (Nat.le_of_ble_eq_true rfl) (Nat.le_of_ble_eq_true rfl) (Nat.le_of_ble_eq_true rfl) (Nat.le_of_ble_eq_true rfl) dX11_set_44 eo55 (k_X11_found e53) rfl ?_
        show AW G lo 0 0 47 [(4, .ref (lo + a13)), (0, .ref (lo + x0)), (1, .int x1), (2, .int x2), (3, .int x3)] [.int r54] h52
        obtain ⟨rfl, rfl⟩ := sp2 e
        exact a_iret C q (Nat.le_of_ble_eq_true rfl) (Nat.le_of_ble_eq_true rfl) dX11_set_47
    · have e := iN c23 e
      refine a_aload_n C dX11_set_26 rfl 1 rfl ?_
      refine a_iconst (v := (1 : Int32)) C dX11_set_27 (by decide) ?_
      obtain ⟨u67, ec66, e⟩ := bA_some e
      obtain ⟨fs65, eo64⟩ := isC_some ec66
      obtain ⟨r63, h61, e62, e⟩ := b2_some e
      refine a_callV (as := [.int (1 : Int32)]) (rest := []) C m_X11_found im_X11_found cb10 se_X11_X11_found_X11_found ml_X11_76 rfl (Nat.le_of_ble_eq_true rfl) (Nat.le_of_ble_eq_true rfl) (Nat.le_of_ble_eq_true rfl) (Nat.le_of_ble_eq_true rfl) (Nat.le_of_ble_eq_true rfl) dX11_set_28 eo64 (k_X11_found e62) rfl ?_
      show AW G lo 0 0 31 [(4, .ref (lo + a13)), (0, .ref (lo + x0)), (1, .int x1), (2, .int x2), (3, .int x3)] [.int r63] h61
      obtain ⟨rfl, rfl⟩ := sp2 e
      exact a_iret C q (Nat.le_of_ble_eq_true rfl) (Nat.le_of_ble_eq_true rfl) dX11_set_31
  · have e := iN c9 e
    refine a_ldc C ko_X11_75 dX11_set_7 ?_
    obtain ⟨rfl, rfl⟩ := sp2 e
    exact a_iret C q (Nat.le_of_ble_eq_true rfl) (Nat.le_of_ble_eq_true rfl) dX11_set_9

set_option maxRecDepth 100000 in
def f_X11_copy (h : Hp) (x0 : Nat) (x1 : Int32) (x2 : Int32) (x3 : Int32) (x4 : Int32) (x5 : Int32) : Option (Int32 × Hp) := b2 (f_X11_lacksRow h x1) fun r3 h1 => (if r3 = 0 then b2 (f_X11_lacksRow h1 x3) fun r12 h10 => (if r12 = 0 then bA (gN h10 x0 10 0) fun a20 => bA (aldn h10 a20 2 x1) fun a22 => bA (gN h10 x0 10 0) fun a24 => bA (aldn h10 a24 2 x3) fun a26 => bA (isC h10 a22 7) fun u33 => b2 (f_X8_isMissing h10 a22 ) fun r29 h27 => (if r29 = 0 then bA (isC h27 a26 7) fun u52 => b2 (f_X8_isMissing h27 a26 ) fun r48 h46 => (if r48 = 0 then bA (gI h46 a22 7 1) fun g57 => bA (gI h46 a26 7 1) fun g59 => (if g57 = g59 then bA (isC h46 a22 7) fun u67 => b2 (f_X8_holds h46 a22 x2 x5) fun r63 h61 => (if r63 = 0 then bA (isC h61 x0 10) fun u77 => b2 (f_X11_found h61 x0 (2 : Int32)) fun r73 h71 => some (r73, h71) else bA (isC h61 a26 7) fun u86 => b2 (f_X8_holds h61 a26 x4 x5) fun r82 h80 => (if r82 = 0 then bA (isC h80 x0 10) fun u111 => b2 (f_X11_found h80 x0 (2 : Int32)) fun r107 h105 => some (r107, h105) else bA (gN h80 a22 7 0) fun a91 => bA (gN h80 a26 7 0) fun a93 => bA (acpy h80 a91 x2 a93 x4 x5) fun h94 => bA (isC h94 x0 10) fun u102 => b2 (f_X11_well h94 x0 x5) fun r98 h96 => some (r98, h96))) else bA (isC h46 x0 10) fun u120 => b2 (f_X11_found h46 x0 (5 : Int32)) fun r116 h114 => some (r116, h114)) else bA (isC h46 x0 10) fun u129 => b2 (f_X11_found h46 x0 (1 : Int32)) fun r125 h123 => some (r125, h123)) else bA (isC h27 x0 10) fun u43 => b2 (f_X11_found h27 x0 (1 : Int32)) fun r39 h37 => some (r39, h37)) else some ((-1000001 : Int32), h10)) else some ((-1000001 : Int32), h1))

theorem m_X11_copy : MI yX11_copy cX11_copy 8 (some .int) 5 := ⟨co_X11_copy, ini_X11, by decide, by decide +kernel⟩
set_option maxRecDepth 100000 in
set_option maxHeartbeats 4000000 in
theorem k_X11_copy {lo : Nat} {h : Hp} {x0 : Nat} {x1 : Int32} {x2 : Int32} {x3 : Int32} {x4 : Int32} {x5 : Int32} {r : Int32} {h' : Hp} (e : f_X11_copy h x0 x1 x2 x3 x4 x5 = some (r, h')) : ∀ l d, AC l d lo yX11_copy cX11_copy 8 (some .int) ({ frames := 1, cells := 0, slots := 0, locals := 80 } : Room) [.ref (lo + x0), .int x1, .int x2, .int x3, .int x4, .int x5] h (some (.int r)) h' := by
  intro l d
  refine AC_of (by decide) (Nat.le_of_ble_eq_true rfl) ?_
  intro G C _ _ q
  unfold f_X11_copy at e
  show AW G lo 0 0 0 [(0, .ref (lo + x0)), (1, .int x1), (2, .int x2), (3, .int x3), (4, .int x4), (5, .int x5)] [] h
  refine a_iload_n C dX11_copy_0 rfl 1 rfl ?_
  obtain ⟨r3, h1, e2, e⟩ := b2_some e
  refine a_callS (as := [.int x1]) (rest := []) C m_X11_lacksRow sm_X11_lacksRow ml_X11_71 rfl (Nat.le_of_ble_eq_true rfl) (Nat.le_of_ble_eq_true rfl) (Nat.le_of_ble_eq_true rfl) (Nat.le_of_ble_eq_true rfl) (Nat.le_of_ble_eq_true rfl) dX11_copy_1 (k_X11_lacksRow e2) rfl ?_
  show AW G lo 0 0 4 [(0, .ref (lo + x0)), (1, .int x1), (2, .int x2), (3, .int x3), (4, .int x4), (5, .int x5)] [.int r3] h1
  refine a_if_ne (tgt := 14) C dX11_copy_4 (by decide) (fun c9 => ?_) (fun c9 => ?_)
  · have e := iN c9 e
    refine a_ldc C ko_X11_75 dX11_copy_14 ?_
    obtain ⟨rfl, rfl⟩ := sp2 e
    exact a_iret C q (Nat.le_of_ble_eq_true rfl) (Nat.le_of_ble_eq_true rfl) dX11_copy_16
  · have e := ip c9 e
    refine a_iload_n C dX11_copy_7 rfl 3 rfl ?_
    obtain ⟨r12, h10, e11, e⟩ := b2_some e
    refine a_callS (as := [.int x3]) (rest := []) C m_X11_lacksRow sm_X11_lacksRow ml_X11_71 rfl (Nat.le_of_ble_eq_true rfl) (Nat.le_of_ble_eq_true rfl) (Nat.le_of_ble_eq_true rfl) (Nat.le_of_ble_eq_true rfl) (Nat.le_of_ble_eq_true rfl) dX11_copy_8 (k_X11_lacksRow e11) rfl ?_
    show AW G lo 0 0 11 [(0, .ref (lo + x0)), (1, .int x1), (2, .int x2), (3, .int x3), (4, .int x4), (5, .int x5)] [.int r12] h10
    refine a_if_eq (tgt := 17) C dX11_copy_11 (by decide) (fun c18 => ?_) (fun c18 => ?_)
    · have e := ip c18 e
      refine a_aload_n C dX11_copy_17 rfl 0 rfl ?_
      obtain ⟨a20, e19, e⟩ := bA_some e
      refine a_getN C cb10 0 (by decide) fl_X11_11 rfl dX11_copy_18 e19 ?_
      refine a_iload_n C dX11_copy_21 rfl 1 rfl ?_
      obtain ⟨a22, e21, e⟩ := bA_some e
      refine a_aldn C (by decide) dX11_copy_22 e21 ?_
      refine a_astore (lv2 := [(6, .ref (lo + a22)), (0, .ref (lo + x0)), (1, .int x1), (2, .int x2), (3, .int x3), (4, .int x4), (5, .int x5)]) C dX11_copy_23 (by decide) rfl ?_
      refine a_aload_n C dX11_copy_25 rfl 1 rfl ?_
      obtain ⟨a24, e23, e⟩ := bA_some e
      refine a_getN C cb10 0 (by decide) fl_X11_11 rfl dX11_copy_26 e23 ?_
      refine a_iload_n C dX11_copy_29 rfl 4 rfl ?_
      obtain ⟨a26, e25, e⟩ := bA_some e
      refine a_aldn C (by decide) dX11_copy_30 e25 ?_
      refine a_astore (lv2 := [(7, .ref (lo + a26)), (6, .ref (lo + a22)), (0, .ref (lo + x0)), (1, .int x1), (2, .int x2), (3, .int x3), (4, .int x4), (5, .int x5)]) C dX11_copy_31 (by decide) rfl ?_
      refine a_aload C dX11_copy_33 1 rfl ?_
      obtain ⟨u33, ec32, e⟩ := bA_some e
      obtain ⟨fs31, eo30⟩ := isC_some ec32
      obtain ⟨r29, h27, e28, e⟩ := b2_some e
      refine a_callV (as := []) (rest := []) C m_X8_isMissing im_X8_isMissing cb7 se_X8_X8_isMissing_X8_isMissing ml_X11_87 rfl (Nat.le_of_ble_eq_true rfl) (Nat.le_of_ble_eq_true rfl) (Nat.le_of_ble_eq_true rfl) (Nat.le_of_ble_eq_true rfl) (Nat.le_of_ble_eq_true rfl) dX11_copy_35 eo30 (k_X8_isMissing e28) rfl ?_
      show AW G lo 0 0 38 [(7, .ref (lo + a26)), (6, .ref (lo + a22)), (0, .ref (lo + x0)), (1, .int x1), (2, .int x2), (3, .int x3), (4, .int x4), (5, .int x5)] [.int r29] h27
      refine a_if_ne (tgt := 49) C dX11_copy_38 (by decide) (fun c36 => ?_) (fun c36 => ?_)
      · have e := iN c36 e
        refine a_aload_n C dX11_copy_49 rfl 2 rfl ?_
        refine a_iconst (v := (1 : Int32)) C dX11_copy_50 (by decide) ?_
        obtain ⟨u43, ec42, e⟩ := bA_some e
        obtain ⟨fs41, eo40⟩ := isC_some ec42
        obtain ⟨r39, h37, e38, e⟩ := b2_some e
        refine a_callV (as := [.int (1 : Int32)]) (rest := []) C m_X11_found im_X11_found cb10 se_X11_X11_found_X11_found ml_X11_76 rfl (Nat.le_of_ble_eq_true rfl) (Nat.le_of_ble_eq_true rfl) (Nat.le_of_ble_eq_true rfl) (Nat.le_of_ble_eq_true rfl) (Nat.le_of_ble_eq_true rfl) dX11_copy_51 eo40 (k_X11_found e38) rfl ?_
        show AW G lo 0 0 54 [(7, .ref (lo + a26)), (6, .ref (lo + a22)), (0, .ref (lo + x0)), (1, .int x1), (2, .int x2), (3, .int x3), (4, .int x4), (5, .int x5)] [.int r39] h37
        obtain ⟨rfl, rfl⟩ := sp2 e
        exact a_iret C q (Nat.le_of_ble_eq_true rfl) (Nat.le_of_ble_eq_true rfl) dX11_copy_54
      · have e := ip c36 e
        refine a_aload C dX11_copy_41 0 rfl ?_
        obtain ⟨u52, ec51, e⟩ := bA_some e
        obtain ⟨fs50, eo49⟩ := isC_some ec51
        obtain ⟨r48, h46, e47, e⟩ := b2_some e
        refine a_callV (as := []) (rest := []) C m_X8_isMissing im_X8_isMissing cb7 se_X8_X8_isMissing_X8_isMissing ml_X11_87 rfl (Nat.le_of_ble_eq_true rfl) (Nat.le_of_ble_eq_true rfl) (Nat.le_of_ble_eq_true rfl) (Nat.le_of_ble_eq_true rfl) (Nat.le_of_ble_eq_true rfl) dX11_copy_43 eo49 (k_X8_isMissing e47) rfl ?_
        show AW G lo 0 0 46 [(7, .ref (lo + a26)), (6, .ref (lo + a22)), (0, .ref (lo + x0)), (1, .int x1), (2, .int x2), (3, .int x3), (4, .int x4), (5, .int x5)] [.int r48] h46
        refine a_if_eq (tgt := 55) C dX11_copy_46 (by decide) (fun c55 => ?_) (fun c55 => ?_)
        · have e := ip c55 e
          refine a_aload C dX11_copy_55 1 rfl ?_
          obtain ⟨g57, e56, e⟩ := bA_some e
          refine a_getI C cb7 1 (by decide) fl_X11_99 rfl dX11_copy_57 e56 ?_
          refine a_aload C dX11_copy_60 0 rfl ?_
          obtain ⟨g59, e58, e⟩ := bA_some e
          refine a_getI C cb7 1 (by decide) fl_X11_99 rfl dX11_copy_62 e58 ?_
          refine a_icmp_eq (tgt := 74) C dX11_copy_65 (by decide) (fun c60 => ?_) (fun c60 => ?_)
          · have e := ip c60 e
            refine a_aload C dX11_copy_74 1 rfl ?_
            refine a_iload_n C dX11_copy_76 rfl 4 rfl ?_
            refine a_iload C dX11_copy_77 7 rfl ?_
            obtain ⟨u67, ec66, e⟩ := bA_some e
            obtain ⟨fs65, eo64⟩ := isC_some ec66
            obtain ⟨r63, h61, e62, e⟩ := b2_some e
            refine a_callV (as := [.int x2, .int x5]) (rest := []) C m_X8_holds im_X8_holds cb7 se_X8_X8_holds_X8_holds ml_X11_91 rfl (Nat.le_of_ble_eq_true rfl) (Nat.le_of_ble_eq_true rfl) (Nat.le_of_ble_eq_true rfl) (Nat.le_of_ble_eq_true rfl) (Nat.le_of_ble_eq_true rfl) dX11_copy_79 eo64 (k_X8_holds e62) rfl ?_
            show AW G lo 0 0 82 [(7, .ref (lo + a26)), (6, .ref (lo + a22)), (0, .ref (lo + x0)), (1, .int x1), (2, .int x2), (3, .int x3), (4, .int x4), (5, .int x5)] [.int r63] h61
            refine a_if_eq (tgt := 97) C dX11_copy_82 (by decide) (fun c70 => ?_) (fun c70 => ?_)
            · have e := ip c70 e
              refine a_aload_n C dX11_copy_97 rfl 2 rfl ?_
              refine a_iconst (v := (2 : Int32)) C dX11_copy_98 (by decide) ?_
              obtain ⟨u77, ec76, e⟩ := bA_some e
              obtain ⟨fs75, eo74⟩ := isC_some ec76
              obtain ⟨r73, h71, e72, e⟩ := b2_some e
              refine a_callV (as := [.int (2 : Int32)]) (rest := []) C m_X11_found im_X11_found cb10 se_X11_X11_found_X11_found ml_X11_76 rfl (Nat.le_of_ble_eq_true rfl) (Nat.le_of_ble_eq_true rfl) (Nat.le_of_ble_eq_true rfl) (Nat.le_of_ble_eq_true rfl) (Nat.le_of_ble_eq_true rfl) dX11_copy_99 eo74 (k_X11_found e72) rfl ?_
              show AW G lo 0 0 102 [(7, .ref (lo + a26)), (6, .ref (lo + a22)), (0, .ref (lo + x0)), (1, .int x1), (2, .int x2), (3, .int x3), (4, .int x4), (5, .int x5)] [.int r73] h71
              obtain ⟨rfl, rfl⟩ := sp2 e
              exact a_iret C q (Nat.le_of_ble_eq_true rfl) (Nat.le_of_ble_eq_true rfl) dX11_copy_102
            · have e := iN c70 e
              refine a_aload C dX11_copy_85 0 rfl ?_
              refine a_iload C dX11_copy_87 6 rfl ?_
              refine a_iload C dX11_copy_89 7 rfl ?_
              obtain ⟨u86, ec85, e⟩ := bA_some e
              obtain ⟨fs84, eo83⟩ := isC_some ec85
              obtain ⟨r82, h80, e81, e⟩ := b2_some e
              refine a_callV (as := [.int x4, .int x5]) (rest := []) C m_X8_holds im_X8_holds cb7 se_X8_X8_holds_X8_holds ml_X11_91 rfl (Nat.le_of_ble_eq_true rfl) (Nat.le_of_ble_eq_true rfl) (Nat.le_of_ble_eq_true rfl) (Nat.le_of_ble_eq_true rfl) (Nat.le_of_ble_eq_true rfl) dX11_copy_91 eo83 (k_X8_holds e81) rfl ?_
              show AW G lo 0 0 94 [(7, .ref (lo + a26)), (6, .ref (lo + a22)), (0, .ref (lo + x0)), (1, .int x1), (2, .int x2), (3, .int x3), (4, .int x4), (5, .int x5)] [.int r82] h80
              refine a_if_ne (tgt := 103) C dX11_copy_94 (by decide) (fun c89 => ?_) (fun c89 => ?_)
              · have e := iN c89 e
                refine a_aload C dX11_copy_103 1 rfl ?_
                obtain ⟨a91, e90, e⟩ := bA_some e
                refine a_getN C cb7 0 (by decide) fl_X11_103 rfl dX11_copy_105 e90 ?_
                refine a_iload_n C dX11_copy_108 rfl 4 rfl ?_
                refine a_aload C dX11_copy_109 0 rfl ?_
                obtain ⟨a93, e92, e⟩ := bA_some e
                refine a_getN C cb7 0 (by decide) fl_X11_103 rfl dX11_copy_111 e92 ?_
                refine a_iload C dX11_copy_114 6 rfl ?_
                refine a_iload C dX11_copy_116 7 rfl ?_
                obtain ⟨h94, e95, e⟩ := bA_some e
                refine a_copy C ml_X11_106 nat_arraycopy sm_arraycopy ini_J10 (Nat.le_of_ble_eq_true rfl) (Nat.le_of_ble_eq_true rfl) dX11_copy_118 e95 ?_
                refine a_aload_n C dX11_copy_121 rfl 2 rfl ?_
                refine a_iload C dX11_copy_122 7 rfl ?_
                obtain ⟨u102, ec101, e⟩ := bA_some e
                obtain ⟨fs100, eo99⟩ := isC_some ec101
                obtain ⟨r98, h96, e97, e⟩ := b2_some e
                refine a_callV (as := [.int x5]) (rest := []) C m_X11_well im_X11_well cb10 se_X11_X11_well_X11_well ml_X11_84 rfl (Nat.le_of_ble_eq_true rfl) (Nat.le_of_ble_eq_true rfl) (Nat.le_of_ble_eq_true rfl) (Nat.le_of_ble_eq_true rfl) (Nat.le_of_ble_eq_true rfl) dX11_copy_124 eo99 (k_X11_well e97) rfl ?_
                show AW G lo 0 0 127 [(7, .ref (lo + a26)), (6, .ref (lo + a22)), (0, .ref (lo + x0)), (1, .int x1), (2, .int x2), (3, .int x3), (4, .int x4), (5, .int x5)] [.int r98] h96
                obtain ⟨rfl, rfl⟩ := sp2 e
                exact a_iret C q (Nat.le_of_ble_eq_true rfl) (Nat.le_of_ble_eq_true rfl) dX11_copy_127
              · have e := ip c89 e
                refine a_aload_n C dX11_copy_97 rfl 2 rfl ?_
                refine a_iconst (v := (2 : Int32)) C dX11_copy_98 (by decide) ?_
                obtain ⟨u111, ec110, e⟩ := bA_some e
                obtain ⟨fs109, eo108⟩ := isC_some ec110
                obtain ⟨r107, h105, e106, e⟩ := b2_some e
                refine a_callV (as := [.int (2 : Int32)]) (rest := []) C m_X11_found im_X11_found cb10 se_X11_X11_found_X11_found ml_X11_76 rfl (Nat.le_of_ble_eq_true rfl) (Nat.le_of_ble_eq_true rfl) (Nat.le_of_ble_eq_true rfl) (Nat.le_of_ble_eq_true rfl) (Nat.le_of_ble_eq_true rfl) dX11_copy_99 eo108 (k_X11_found e106) rfl ?_
                show AW G lo 0 0 102 [(7, .ref (lo + a26)), (6, .ref (lo + a22)), (0, .ref (lo + x0)), (1, .int x1), (2, .int x2), (3, .int x3), (4, .int x4), (5, .int x5)] [.int r107] h105
                obtain ⟨rfl, rfl⟩ := sp2 e
                exact a_iret C q (Nat.le_of_ble_eq_true rfl) (Nat.le_of_ble_eq_true rfl) dX11_copy_102
          · have e := iN c60 e
            refine a_aload_n C dX11_copy_68 rfl 2 rfl ?_
            refine a_iconst (v := (5 : Int32)) C dX11_copy_69 (by decide) ?_
            obtain ⟨u120, ec119, e⟩ := bA_some e
            obtain ⟨fs118, eo117⟩ := isC_some ec119
            obtain ⟨r116, h114, e115, e⟩ := b2_some e
            refine a_callV (as := [.int (5 : Int32)]) (rest := []) C m_X11_found im_X11_found cb10 se_X11_X11_found_X11_found ml_X11_76 rfl (Nat.le_of_ble_eq_true rfl) (Nat.le_of_ble_eq_true rfl) (Nat.le_of_ble_eq_true rfl) (Nat.le_of_ble_eq_true rfl) (Nat.le_of_ble_eq_true rfl) dX11_copy_70 eo117 (k_X11_found e115) rfl ?_
            show AW G lo 0 0 73 [(7, .ref (lo + a26)), (6, .ref (lo + a22)), (0, .ref (lo + x0)), (1, .int x1), (2, .int x2), (3, .int x3), (4, .int x4), (5, .int x5)] [.int r116] h114
            obtain ⟨rfl, rfl⟩ := sp2 e
            exact a_iret C q (Nat.le_of_ble_eq_true rfl) (Nat.le_of_ble_eq_true rfl) dX11_copy_73
        · have e := iN c55 e
          refine a_aload_n C dX11_copy_49 rfl 2 rfl ?_
          refine a_iconst (v := (1 : Int32)) C dX11_copy_50 (by decide) ?_
          obtain ⟨u129, ec128, e⟩ := bA_some e
          obtain ⟨fs127, eo126⟩ := isC_some ec128
          obtain ⟨r125, h123, e124, e⟩ := b2_some e
          refine a_callV (as := [.int (1 : Int32)]) (rest := []) C m_X11_found im_X11_found cb10 se_X11_X11_found_X11_found ml_X11_76 rfl (Nat.le_of_ble_eq_true rfl) (Nat.le_of_ble_eq_true rfl) (Nat.le_of_ble_eq_true rfl) (Nat.le_of_ble_eq_true rfl) (Nat.le_of_ble_eq_true rfl) dX11_copy_51 eo126 (k_X11_found e124) rfl ?_
          show AW G lo 0 0 54 [(7, .ref (lo + a26)), (6, .ref (lo + a22)), (0, .ref (lo + x0)), (1, .int x1), (2, .int x2), (3, .int x3), (4, .int x4), (5, .int x5)] [.int r125] h123
          obtain ⟨rfl, rfl⟩ := sp2 e
          exact a_iret C q (Nat.le_of_ble_eq_true rfl) (Nat.le_of_ble_eq_true rfl) dX11_copy_54
    · have e := iN c18 e
      refine a_ldc C ko_X11_75 dX11_copy_14 ?_
      obtain ⟨rfl, rfl⟩ := sp2 e
      exact a_iret C q (Nat.le_of_ble_eq_true rfl) (Nat.le_of_ble_eq_true rfl) dX11_copy_16

set_option maxRecDepth 100000 in
def f_X11_drop (h : Hp) (x0 : Nat) (x1 : Int32) : Option (Int32 × Hp) := b2 (f_X11_lacksRow h x1) fun r3 h1 => (if r3 = 0 then bA (gN h1 x0 10 0) fun a11 => bA (aldn h1 a11 2 x1) fun a13 => bA (isC h1 a13 7) fun u20 => b2 (f_X8_isMissing h1 a13 ) fun r16 h14 => (if r16 = 0 then bA (gI h14 a13 7 2) fun g25 => bA (isC h14 a13 7) fun u32 => bA (f_X8_end h14 a13 ) fun h26 => bA (isC h26 x0 10) fun u41 => b2 (f_X11_well h26 x0 g25) fun r37 h35 => some (r37, h35) else bA (isC h14 x0 10) fun u50 => b2 (f_X11_found h14 x0 (1 : Int32)) fun r46 h44 => some (r46, h44)) else some ((-1000001 : Int32), h1))

theorem m_X11_drop : MI yX11_drop cX11_drop 4 (some .int) 1 := ⟨co_X11_drop, ini_X11, by decide, by decide +kernel⟩
set_option maxRecDepth 100000 in
set_option maxHeartbeats 4000000 in
theorem k_X11_drop {lo : Nat} {h : Hp} {x0 : Nat} {x1 : Int32} {r : Int32} {h' : Hp} (e : f_X11_drop h x0 x1 = some (r, h')) : ∀ l d, AC l d lo yX11_drop cX11_drop 4 (some .int) ({ frames := 1, cells := 0, slots := 0, locals := 21 } : Room) [.ref (lo + x0), .int x1] h (some (.int r)) h' := by
  intro l d
  refine AC_of (by decide) (Nat.le_of_ble_eq_true rfl) ?_
  intro G C _ _ q
  unfold f_X11_drop at e
  show AW G lo 0 0 0 [(0, .ref (lo + x0)), (1, .int x1)] [] h
  refine a_iload_n C dX11_drop_0 rfl 1 rfl ?_
  obtain ⟨r3, h1, e2, e⟩ := b2_some e
  refine a_callS (as := [.int x1]) (rest := []) C m_X11_lacksRow sm_X11_lacksRow ml_X11_71 rfl (Nat.le_of_ble_eq_true rfl) (Nat.le_of_ble_eq_true rfl) (Nat.le_of_ble_eq_true rfl) (Nat.le_of_ble_eq_true rfl) (Nat.le_of_ble_eq_true rfl) dX11_drop_1 (k_X11_lacksRow e2) rfl ?_
  show AW G lo 0 0 4 [(0, .ref (lo + x0)), (1, .int x1)] [.int r3] h1
  refine a_if_eq (tgt := 10) C dX11_drop_4 (by decide) (fun c9 => ?_) (fun c9 => ?_)
  · have e := ip c9 e
    refine a_aload_n C dX11_drop_10 rfl 0 rfl ?_
    obtain ⟨a11, e10, e⟩ := bA_some e
    refine a_getN C cb10 0 (by decide) fl_X11_11 rfl dX11_drop_11 e10 ?_
    refine a_iload_n C dX11_drop_14 rfl 1 rfl ?_
    obtain ⟨a13, e12, e⟩ := bA_some e
    refine a_aldn C (by decide) dX11_drop_15 e12 ?_
    refine a_astore_n (lv2 := [(2, .ref (lo + a13)), (0, .ref (lo + x0)), (1, .int x1)]) C dX11_drop_16 rfl (by decide) rfl ?_
    refine a_aload_n C dX11_drop_17 rfl 0 rfl ?_
    obtain ⟨u20, ec19, e⟩ := bA_some e
    obtain ⟨fs18, eo17⟩ := isC_some ec19
    obtain ⟨r16, h14, e15, e⟩ := b2_some e
    refine a_callV (as := []) (rest := []) C m_X8_isMissing im_X8_isMissing cb7 se_X8_X8_isMissing_X8_isMissing ml_X11_87 rfl (Nat.le_of_ble_eq_true rfl) (Nat.le_of_ble_eq_true rfl) (Nat.le_of_ble_eq_true rfl) (Nat.le_of_ble_eq_true rfl) (Nat.le_of_ble_eq_true rfl) dX11_drop_18 eo17 (k_X8_isMissing e15) rfl ?_
    show AW G lo 0 0 21 [(2, .ref (lo + a13)), (0, .ref (lo + x0)), (1, .int x1)] [.int r16] h14
    refine a_if_eq (tgt := 30) C dX11_drop_21 (by decide) (fun c23 => ?_) (fun c23 => ?_)
    · have e := ip c23 e
      refine a_aload_n C dX11_drop_30 rfl 0 rfl ?_
      obtain ⟨g25, e24, e⟩ := bA_some e
      refine a_getI C cb7 2 (by decide) fl_X11_112 rfl dX11_drop_31 e24 ?_
      refine a_istore_n (lv2 := [(3, .int g25), (2, .ref (lo + a13)), (0, .ref (lo + x0)), (1, .int x1)]) C dX11_drop_34 rfl (by decide) rfl ?_
      refine a_aload_n C dX11_drop_35 rfl 1 rfl ?_
      obtain ⟨u32, ec31, e⟩ := bA_some e
      obtain ⟨fs30, eo29⟩ := isC_some ec31
      obtain ⟨h26, e27, e⟩ := bA_some e
      refine a_callV (as := []) (rest := []) C m_X8_end im_X8_end cb7 se_X8_X8_end_X8_end ml_X11_115 rfl (Nat.le_of_ble_eq_true rfl) (Nat.le_of_ble_eq_true rfl) (Nat.le_of_ble_eq_true rfl) (Nat.le_of_ble_eq_true rfl) (Nat.le_of_ble_eq_true rfl) dX11_drop_36 eo29 (k_X8_end e27) rfl ?_
      show AW G lo 0 0 39 [(3, .int g25), (2, .ref (lo + a13)), (0, .ref (lo + x0)), (1, .int x1)] [] h26
      refine a_aload_n C dX11_drop_39 rfl 2 rfl ?_
      refine a_iload_n C dX11_drop_40 rfl 0 rfl ?_
      obtain ⟨u41, ec40, e⟩ := bA_some e
      obtain ⟨fs39, eo38⟩ := isC_some ec40
      obtain ⟨r37, h35, e36, e⟩ := b2_some e
      refine a_callV (as := [.int g25]) (rest := []) C m_X11_well im_X11_well cb10 se_X11_X11_well_X11_well ml_X11_84 rfl (Nat.le_of_ble_eq_true rfl) (Nat.le_of_ble_eq_true rfl) (Nat.le_of_ble_eq_true rfl) (Nat.le_of_ble_eq_true rfl) (Nat.le_of_ble_eq_true rfl) dX11_drop_41 eo38 (k_X11_well e36) rfl ?_
      show AW G lo 0 0 44 [(3, .int g25), (2, .ref (lo + a13)), (0, .ref (lo + x0)), (1, .int x1)] [.int r37] h35
      obtain ⟨rfl, rfl⟩ := sp2 e
      exact a_iret C q (Nat.le_of_ble_eq_true rfl) (Nat.le_of_ble_eq_true rfl) dX11_drop_44
    · have e := iN c23 e
      refine a_aload_n C dX11_drop_24 rfl 1 rfl ?_
      refine a_iconst (v := (1 : Int32)) C dX11_drop_25 (by decide) ?_
      obtain ⟨u50, ec49, e⟩ := bA_some e
      obtain ⟨fs48, eo47⟩ := isC_some ec49
      obtain ⟨r46, h44, e45, e⟩ := b2_some e
      refine a_callV (as := [.int (1 : Int32)]) (rest := []) C m_X11_found im_X11_found cb10 se_X11_X11_found_X11_found ml_X11_76 rfl (Nat.le_of_ble_eq_true rfl) (Nat.le_of_ble_eq_true rfl) (Nat.le_of_ble_eq_true rfl) (Nat.le_of_ble_eq_true rfl) (Nat.le_of_ble_eq_true rfl) dX11_drop_26 eo47 (k_X11_found e45) rfl ?_
      show AW G lo 0 0 29 [(2, .ref (lo + a13)), (0, .ref (lo + x0)), (1, .int x1)] [.int r46] h44
      obtain ⟨rfl, rfl⟩ := sp2 e
      exact a_iret C q (Nat.le_of_ble_eq_true rfl) (Nat.le_of_ble_eq_true rfl) dX11_drop_29
  · have e := iN c9 e
    refine a_ldc C ko_X11_75 dX11_drop_7 ?_
    obtain ⟨rfl, rfl⟩ := sp2 e
    exact a_iret C q (Nat.le_of_ble_eq_true rfl) (Nat.le_of_ble_eq_true rfl) dX11_drop_9

set_option maxRecDepth 100000 in
def f_X11_feed (h : Hp) (x0 : Nat) (x1 : Int32) : Option (Int32 × Hp) := (if x1 < 0 then some ((-1000001 : Int32), h) else (if x1 ≤ (255 : Int32) then bA (gN h x0 10 1) fun a4 => bA (isC h a4 6) fun u11 => b2 (f_X7_isFull h a4 ) fun r7 h5 => (if r7 = 0 then bA (gN h5 x0 10 1) fun a16 => bA (isC h5 a16 6) fun u23 => b2 (f_X7_take h5 a16 x1) fun r19 h17 => some (r19, h17) else some ((-1000003 : Int32), h5)) else some ((-1000001 : Int32), h)))

theorem m_X11_feed : MI yX11_feed cX11_feed 2 (some .int) 1 := ⟨co_X11_feed, ini_X11, by decide, by decide +kernel⟩
set_option maxRecDepth 100000 in
set_option maxHeartbeats 4000000 in
theorem k_X11_feed {lo : Nat} {h : Hp} {x0 : Nat} {x1 : Int32} {r : Int32} {h' : Hp} (e : f_X11_feed h x0 x1 = some (r, h')) : ∀ l d, AC l d lo yX11_feed cX11_feed 2 (some .int) ({ frames := 2, cells := 0, slots := 0, locals := 41 } : Room) [.ref (lo + x0), .int x1] h (some (.int r)) h' := by
  intro l d
  refine AC_of (by decide) (Nat.le_of_ble_eq_true rfl) ?_
  intro G C _ _ q
  unfold f_X11_feed at e
  show AW G lo 0 0 0 [(0, .ref (lo + x0)), (1, .int x1)] [] h
  refine a_iload_n C dX11_feed_0 rfl 1 rfl ?_
  refine a_if_lt (tgt := 11) C dX11_feed_1 (by decide) (fun c1 => ?_) (fun c1 => ?_)
  · have e := ip c1 e
    refine a_ldc C ko_X11_75 dX11_feed_11 ?_
    obtain ⟨rfl, rfl⟩ := sp2 e
    exact a_iret C q (Nat.le_of_ble_eq_true rfl) (Nat.le_of_ble_eq_true rfl) dX11_feed_13
  · have e := iN c1 e
    refine a_iload_n C dX11_feed_4 rfl 1 rfl ?_
    refine a_sipush (v := (255 : Int32)) C dX11_feed_5 (by decide) ?_
    refine a_icmp_le (tgt := 14) C dX11_feed_8 (by decide) (fun c2 => ?_) (fun c2 => ?_)
    · have e := ip c2 e
      refine a_aload_n C dX11_feed_14 rfl 0 rfl ?_
      obtain ⟨a4, e3, e⟩ := bA_some e
      refine a_getN C cb10 1 (by decide) fl_X11_18 rfl dX11_feed_15 e3 ?_
      obtain ⟨u11, ec10, e⟩ := bA_some e
      obtain ⟨fs9, eo8⟩ := isC_some ec10
      obtain ⟨r7, h5, e6, e⟩ := b2_some e
      refine a_callV (as := []) (rest := []) C m_X7_isFull im_X7_isFull cb6 se_X7_X7_isFull_X7_isFull ml_X11_118 rfl (Nat.le_of_ble_eq_true rfl) (Nat.le_of_ble_eq_true rfl) (Nat.le_of_ble_eq_true rfl) (Nat.le_of_ble_eq_true rfl) (Nat.le_of_ble_eq_true rfl) dX11_feed_18 eo8 (k_X7_isFull e6) rfl ?_
      show AW G lo 0 0 21 [(0, .ref (lo + x0)), (1, .int x1)] [.int r7] h5
      refine a_if_eq (tgt := 27) C dX11_feed_21 (by decide) (fun c14 => ?_) (fun c14 => ?_)
      · have e := ip c14 e
        refine a_aload_n C dX11_feed_27 rfl 0 rfl ?_
        obtain ⟨a16, e15, e⟩ := bA_some e
        refine a_getN C cb10 1 (by decide) fl_X11_18 rfl dX11_feed_28 e15 ?_
        refine a_iload_n C dX11_feed_31 rfl 1 rfl ?_
        obtain ⟨u23, ec22, e⟩ := bA_some e
        obtain ⟨fs21, eo20⟩ := isC_some ec22
        obtain ⟨r19, h17, e18, e⟩ := b2_some e
        refine a_callV (as := [.int x1]) (rest := []) C m_X7_take im_X7_take cb6 se_X7_X7_take_X7_take ml_X11_122 rfl (Nat.le_of_ble_eq_true rfl) (Nat.le_of_ble_eq_true rfl) (Nat.le_of_ble_eq_true rfl) (Nat.le_of_ble_eq_true rfl) (Nat.le_of_ble_eq_true rfl) dX11_feed_32 eo20 (k_X7_take e18) rfl ?_
        show AW G lo 0 0 35 [(0, .ref (lo + x0)), (1, .int x1)] [.int r19] h17
        obtain ⟨rfl, rfl⟩ := sp2 e
        exact a_iret C q (Nat.le_of_ble_eq_true rfl) (Nat.le_of_ble_eq_true rfl) dX11_feed_35
      · have e := iN c14 e
        refine a_ldc C ko_X11_121 dX11_feed_24 ?_
        obtain ⟨rfl, rfl⟩ := sp2 e
        exact a_iret C q (Nat.le_of_ble_eq_true rfl) (Nat.le_of_ble_eq_true rfl) dX11_feed_26
    · have e := iN c2 e
      refine a_ldc C ko_X11_75 dX11_feed_11 ?_
      obtain ⟨rfl, rfl⟩ := sp2 e
      exact a_iret C q (Nat.le_of_ble_eq_true rfl) (Nat.le_of_ble_eq_true rfl) dX11_feed_13

set_option maxRecDepth 100000 in
def f_X11_house (h : Hp) (x0 : Nat) : Option (Int32 × Hp) := bA (gN h x0 10 1) fun a2 => bA (isC h a2 6) fun u9 => bA (f_X7_read h a2 ) fun h3 => bA (gN h3 x0 10 1) fun a13 => bA (gI h3 a13 6 4) fun g15 => (if g15 = 0 then bA (gN h3 x0 10 3) fun a18 => bA (gN h3 x0 10 1) fun a20 => bA (gN h3 a20 6 1) fun a22 => bA (isC h3 a18 2) fun u29 => bA (f_X3_become h3 a18 a22) fun h23 => bA (isC h23 x0 10) fun u38 => bA (f_X11_forgetActs h23 x0 ) fun h32 => bA (gN h32 x0 10 4) fun a42 => bA (isC h32 a42 5) fun u49 => bA (f_X6_clear h32 a42 ) fun h43 => bA (gN h43 x0 10 3) fun a53 => bA (gI h43 a53 2 4) fun g55 => some (g55, h43) else bA (gN h3 x0 10 1) fun a57 => bA (gI h3 a57 6 4) fun g59 => bA (pV h3 x0 10 14 (.inl g59)) fun h61 => bA (gN h61 x0 10 1) fun a63 => bA (gI h61 a63 6 3) fun g65 => some (((-1000100 : Int32) - g65), h61))

theorem m_X11_house : MI yX11_house cX11_house 1 (some .int) 0 := ⟨co_X11_house, ini_X11, by decide, by decide +kernel⟩
set_option maxRecDepth 100000 in
set_option maxHeartbeats 4000000 in
theorem k_X11_house {lo : Nat} {h : Hp} {x0 : Nat} {r : Int32} {h' : Hp} (e : f_X11_house h x0 = some (r, h')) : ∀ l d, AC l d lo yX11_house cX11_house 1 (some .int) ({ frames := 8, cells := 120, slots := 480, locals := 185 } : Room) [.ref (lo + x0)] h (some (.int r)) h' := by
  intro l d
  refine AC_of (by decide) (Nat.le_of_ble_eq_true rfl) ?_
  intro G C _ _ q
  unfold f_X11_house at e
  show AW G lo 0 0 0 [(0, .ref (lo + x0))] [] h
  refine a_aload_n C dX11_house_0 rfl 0 rfl ?_
  obtain ⟨a2, e1, e⟩ := bA_some e
  refine a_getN C cb10 1 (by decide) fl_X11_18 rfl dX11_house_1 e1 ?_
  obtain ⟨u9, ec8, e⟩ := bA_some e
  obtain ⟨fs7, eo6⟩ := isC_some ec8
  obtain ⟨h3, e4, e⟩ := bA_some e
  refine a_callV (as := []) (rest := []) C m_X7_read im_X7_read cb6 se_X7_X7_read_X7_read ml_X11_125 rfl (Nat.le_of_ble_eq_true rfl) (Nat.le_of_ble_eq_true rfl) (Nat.le_of_ble_eq_true rfl) (Nat.le_of_ble_eq_true rfl) (Nat.le_of_ble_eq_true rfl) dX11_house_4 eo6 (k_X7_read e4) rfl ?_
  show AW G lo 120 480 7 [(0, .ref (lo + x0))] [] h3
  refine a_aload_n C dX11_house_7 rfl 0 rfl ?_
  obtain ⟨a13, e12, e⟩ := bA_some e
  refine a_getN C cb10 1 (by decide) fl_X11_18 rfl dX11_house_8 e12 ?_
  obtain ⟨g15, e14, e⟩ := bA_some e
  refine a_getI C cb6 4 (by decide) fl_X11_128 rfl dX11_house_11 e14 ?_
  refine a_if_eq (tgt := 39) C dX11_house_14 (by decide) (fun c16 => ?_) (fun c16 => ?_)
  · have e := ip c16 e
    refine a_aload_n C dX11_house_39 rfl 0 rfl ?_
    obtain ⟨a18, e17, e⟩ := bA_some e
    refine a_getN C cb10 3 (by decide) fl_X11_33 rfl dX11_house_40 e17 ?_
    refine a_aload_n C dX11_house_43 rfl 0 rfl ?_
    obtain ⟨a20, e19, e⟩ := bA_some e
    refine a_getN C cb10 1 (by decide) fl_X11_18 rfl dX11_house_44 e19 ?_
    obtain ⟨a22, e21, e⟩ := bA_some e
    refine a_getN C cb6 1 (by decide) fl_X11_138 rfl dX11_house_47 e21 ?_
    obtain ⟨u29, ec28, e⟩ := bA_some e
    obtain ⟨fs27, eo26⟩ := isC_some ec28
    obtain ⟨h23, e24, e⟩ := bA_some e
    refine a_callV (as := [.ref (lo + a22)]) (rest := []) C m_X3_become im_X3_become cb2 se_X3_X3_become_X3_become ml_X11_141 rfl (Nat.le_of_ble_eq_true rfl) (Nat.le_of_ble_eq_true rfl) (Nat.le_of_ble_eq_true rfl) (Nat.le_of_ble_eq_true rfl) (Nat.le_of_ble_eq_true rfl) dX11_house_50 eo26 (k_X3_become e24) rfl ?_
    show AW G lo 120 480 53 [(0, .ref (lo + x0))] [] h23
    refine a_aload_n C dX11_house_53 rfl 0 rfl ?_
    obtain ⟨u38, ec37, e⟩ := bA_some e
    obtain ⟨fs36, eo35⟩ := isC_some ec37
    obtain ⟨h32, e33, e⟩ := bA_some e
    refine a_callV (as := []) (rest := []) C m_X11_forgetActs im_X11_forgetActs cb10 se_X11_X11_forgetActs_X11_forgetActs ml_X11_145 rfl (Nat.le_of_ble_eq_true rfl) (Nat.le_of_ble_eq_true rfl) (Nat.le_of_ble_eq_true rfl) (Nat.le_of_ble_eq_true rfl) (Nat.le_of_ble_eq_true rfl) dX11_house_54 eo35 (k_X11_forgetActs e33) rfl ?_
    show AW G lo 120 480 57 [(0, .ref (lo + x0))] [] h32
    refine a_aload_n C dX11_house_57 rfl 0 rfl ?_
    obtain ⟨a42, e41, e⟩ := bA_some e
    refine a_getN C cb10 4 (by decide) fl_X11_38 rfl dX11_house_58 e41 ?_
    obtain ⟨u49, ec48, e⟩ := bA_some e
    obtain ⟨fs47, eo46⟩ := isC_some ec48
    obtain ⟨h43, e44, e⟩ := bA_some e
    refine a_callV (as := []) (rest := []) C m_X6_clear im_X6_clear cb5 se_X6_X6_clear_X6_clear ml_X11_148 rfl (Nat.le_of_ble_eq_true rfl) (Nat.le_of_ble_eq_true rfl) (Nat.le_of_ble_eq_true rfl) (Nat.le_of_ble_eq_true rfl) (Nat.le_of_ble_eq_true rfl) dX11_house_61 eo46 (k_X6_clear e44) rfl ?_
    show AW G lo 120 480 64 [(0, .ref (lo + x0))] [] h43
    refine a_aload_n C dX11_house_64 rfl 0 rfl ?_
    obtain ⟨a53, e52, e⟩ := bA_some e
    refine a_getN C cb10 3 (by decide) fl_X11_33 rfl dX11_house_65 e52 ?_
    obtain ⟨g55, e54, e⟩ := bA_some e
    refine a_getI C cb2 4 (by decide) fl_X11_151 rfl dX11_house_68 e54 ?_
    obtain ⟨rfl, rfl⟩ := sp2 e
    exact a_iret C q (Nat.le_of_ble_eq_true rfl) (Nat.le_of_ble_eq_true rfl) dX11_house_71
  · have e := iN c16 e
    refine a_aload_n C dX11_house_17 rfl 0 rfl ?_
    refine a_aload_n C dX11_house_18 rfl 0 rfl ?_
    obtain ⟨a57, e56, e⟩ := bA_some e
    refine a_getN C cb10 1 (by decide) fl_X11_18 rfl dX11_house_19 e56 ?_
    obtain ⟨g59, e58, e⟩ := bA_some e
    refine a_getI C cb6 4 (by decide) fl_X11_128 rfl dX11_house_22 e58 ?_
    obtain ⟨h61, e60, e⟩ := bA_some e
    refine a_putI C cb10 14 (by decide) fl_X11_131 rfl (by decide +kernel) dX11_house_25 e60 ?_
    refine a_ldc C ko_X11_134 dX11_house_28 ?_
    refine a_aload_n C dX11_house_30 rfl 0 rfl ?_
    obtain ⟨a63, e62, e⟩ := bA_some e
    refine a_getN C cb10 1 (by decide) fl_X11_18 rfl dX11_house_31 e62 ?_
    obtain ⟨g65, e64, e⟩ := bA_some e
    refine a_getI C cb6 3 (by decide) fl_X11_135 rfl dX11_house_34 e64 ?_
    refine a_isub C dX11_house_37 ?_
    obtain ⟨rfl, rfl⟩ := sp2 e
    exact a_iret C q (Nat.le_of_ble_eq_true rfl) (Nat.le_of_ble_eq_true rfl) dX11_house_38

set_option maxRecDepth 100000 in
def f_X11_fault (h : Hp) (x0 : Nat) : Option (Int32 × Hp) := bA (gI h x0 10 14) fun g2 => some (g2, h)

theorem m_X11_fault : MI yX11_fault cX11_fault 1 (some .int) 0 := ⟨co_X11_fault, ini_X11, by decide, by decide +kernel⟩
set_option maxRecDepth 100000 in
set_option maxHeartbeats 4000000 in
theorem k_X11_fault {lo : Nat} {h : Hp} {x0 : Nat} {r : Int32} {h' : Hp} (e : f_X11_fault h x0 = some (r, h')) : ∀ l d, AC l d lo yX11_fault cX11_fault 1 (some .int) ({ frames := 0, cells := 0, slots := 0, locals := 0 } : Room) [.ref (lo + x0)] h (some (.int r)) h' := by
  intro l d
  refine AC_of (by decide) (Nat.le_of_ble_eq_true rfl) ?_
  intro G C _ _ q
  unfold f_X11_fault at e
  show AW G lo 0 0 0 [(0, .ref (lo + x0))] [] h
  refine a_aload_n C dX11_fault_0 rfl 0 rfl ?_
  obtain ⟨g2, e1, e⟩ := bA_some e
  refine a_getI C cb10 14 (by decide) fl_X11_131 rfl dX11_fault_1 e1 ?_
  obtain ⟨rfl, rfl⟩ := sp2 e
  exact a_iret C q (Nat.le_of_ble_eq_true rfl) (Nat.le_of_ble_eq_true rfl) dX11_fault_4

set_option maxRecDepth 100000 in
def f_X11_undo (h : Hp) (x0 : Nat) : Option (Int32 × Hp) := bA (gI h x0 10 13) fun g2 => (if g2 = 0 then some ((-1000002 : Int32), h) else bA (gI h x0 10 13) fun g5 => bA (pV h x0 10 13 (.inl (g5 - (1 : Int32)))) fun h7 => bA (gN h7 x0 10 3) fun a9 => bA (gN h7 x0 10 7) fun a11 => bA (gI h7 x0 10 12) fun g13 => bA (gI h7 x0 10 13) fun g15 => bA (aldn h7 a11 3 ((g13 + g15) - (g13 + g15) / (24 : Int32) * (24 : Int32))) fun a17 => bA (isC h7 a9 2) fun u24 => bA (f_X3_become h7 a9 a17) fun h18 => bA (gI h18 x0 10 13) fun g28 => some (g28, h18))

theorem m_X11_undo : MI yX11_undo cX11_undo 1 (some .int) 0 := ⟨co_X11_undo, ini_X11, by decide, by decide +kernel⟩
set_option maxRecDepth 100000 in
set_option maxHeartbeats 4000000 in
theorem k_X11_undo {lo : Nat} {h : Hp} {x0 : Nat} {r : Int32} {h' : Hp} (e : f_X11_undo h x0 = some (r, h')) : ∀ l d, AC l d lo yX11_undo cX11_undo 1 (some .int) ({ frames := 2, cells := 0, slots := 0, locals := 102 } : Room) [.ref (lo + x0)] h (some (.int r)) h' := by
  intro l d
  refine AC_of (by decide) (Nat.le_of_ble_eq_true rfl) ?_
  intro G C _ _ q
  unfold f_X11_undo at e
  show AW G lo 0 0 0 [(0, .ref (lo + x0))] [] h
  refine a_aload_n C dX11_undo_0 rfl 0 rfl ?_
  obtain ⟨g2, e1, e⟩ := bA_some e
  refine a_getI C cb10 13 (by decide) fl_X11_154 rfl dX11_undo_1 e1 ?_
  refine a_if_ne (tgt := 10) C dX11_undo_4 (by decide) (fun c3 => ?_) (fun c3 => ?_)
  · have e := iN c3 e
    refine a_aload_n C dX11_undo_10 rfl 0 rfl ?_
    refine a_dup C dX11_undo_11 rfl ?_
    obtain ⟨g5, e4, e⟩ := bA_some e
    refine a_getI C cb10 13 (by decide) fl_X11_154 rfl dX11_undo_12 e4 ?_
    refine a_iconst (v := (1 : Int32)) C dX11_undo_15 (by decide) ?_
    refine a_isub C dX11_undo_16 ?_
    obtain ⟨h7, e6, e⟩ := bA_some e
    refine a_putI C cb10 13 (by decide) fl_X11_154 rfl (by decide +kernel) dX11_undo_17 e6 ?_
    refine a_aload_n C dX11_undo_20 rfl 0 rfl ?_
    obtain ⟨a9, e8, e⟩ := bA_some e
    refine a_getN C cb10 3 (by decide) fl_X11_33 rfl dX11_undo_21 e8 ?_
    refine a_aload_n C dX11_undo_24 rfl 0 rfl ?_
    obtain ⟨a11, e10, e⟩ := bA_some e
    refine a_getN C cb10 7 (by decide) fl_X11_47 rfl dX11_undo_25 e10 ?_
    refine a_aload_n C dX11_undo_28 rfl 0 rfl ?_
    obtain ⟨g13, e12, e⟩ := bA_some e
    refine a_getI C cb10 12 (by decide) fl_X11_158 rfl dX11_undo_29 e12 ?_
    refine a_aload_n C dX11_undo_32 rfl 0 rfl ?_
    obtain ⟨g15, e14, e⟩ := bA_some e
    refine a_getI C cb10 13 (by decide) fl_X11_154 rfl dX11_undo_33 e14 ?_
    refine a_iadd C dX11_undo_36 ?_
    refine a_bipush (v := (24 : Int32)) C dX11_undo_37 (by decide) ?_
    refine a_irem C dX11_undo_39 (by decide) ?_
    obtain ⟨a17, e16, e⟩ := bA_some e
    refine a_aldn C (by decide) dX11_undo_40 e16 ?_
    obtain ⟨u24, ec23, e⟩ := bA_some e
    obtain ⟨fs22, eo21⟩ := isC_some ec23
    obtain ⟨h18, e19, e⟩ := bA_some e
    refine a_callV (as := [.ref (lo + a17)]) (rest := []) C m_X3_become im_X3_become cb2 se_X3_X3_become_X3_become ml_X11_141 rfl (Nat.le_of_ble_eq_true rfl) (Nat.le_of_ble_eq_true rfl) (Nat.le_of_ble_eq_true rfl) (Nat.le_of_ble_eq_true rfl) (Nat.le_of_ble_eq_true rfl) dX11_undo_41 eo21 (k_X3_become e19) rfl ?_
    show AW G lo 0 0 44 [(0, .ref (lo + x0))] [] h18
    refine a_aload_n C dX11_undo_44 rfl 0 rfl ?_
    obtain ⟨g28, e27, e⟩ := bA_some e
    refine a_getI C cb10 13 (by decide) fl_X11_154 rfl dX11_undo_45 e27 ?_
    obtain ⟨rfl, rfl⟩ := sp2 e
    exact a_iret C q (Nat.le_of_ble_eq_true rfl) (Nat.le_of_ble_eq_true rfl) dX11_undo_48
  · have e := ip c3 e
    refine a_ldc C ko_X11_157 dX11_undo_7 ?_
    obtain ⟨rfl, rfl⟩ := sp2 e
    exact a_iret C q (Nat.le_of_ble_eq_true rfl) (Nat.le_of_ble_eq_true rfl) dX11_undo_9

set_option maxRecDepth 100000 in
def f_X11_errand (h : Hp) (x0 : Nat) (x1 : Int32) (x2 : Int32) (x3 : Int32) : Option (Int32 × Hp) := bA (gN h x0 10 3) fun a2 => bA (isC h a2 2) fun u9 => b2 (f_X3_stands h a2 ) fun r5 h3 => (if r5 = 0 then some ((-1000002 : Int32), h3) else b2 (f_X11_isBadRoute h3 x1 x3) fun r15 h13 => (if r15 = 0 then bA (isC h13 x0 10) fun u28 => b2 (f_X11_lackOfRoute h13 x0 x1 x2 x3) fun r24 h22 => (if r24 = 0 then bA (isC h22 x0 10) fun u38 => bA (f_X11_keepAct h22 x0 ) fun h32 => bA (gN h32 x0 10 2) fun a42 => bA (gN h32 x0 10 0) fun a44 => bA (aldn h32 a44 2 x1) fun a46 => bA (gN h32 a46 7 0) fun a48 => bA (isC h32 a42 9) fun u55 => bA (f_X10_go h32 a42 a48 x2 x3) fun h49 => bA (gN h49 x0 10 2) fun a59 => bA (gI h49 a59 9 10) fun g61 => b2 (if g61 = 0 then bA (gN h49 x0 10 2) fun a81 => bA (gI h49 a81 9 9) fun g83 => bA (isC h49 x0 10) fun u90 => b2 (f_X11_well h49 x0 g83) fun r86 h84 => some (r86, h84) else bA (gN h49 x0 10 2) fun a68 => bA (gI h49 a68 9 10) fun g70 => bA (isC h49 x0 10) fun u77 => b2 (f_X11_found h49 x0 g70) fun r73 h71 => some (r73, h71)) fun j63 h64 => some (j63, h64) else bA (isC h22 x0 10) fun u99 => b2 (f_X11_found h22 x0 r24) fun r95 h93 => some (r95, h93)) else some ((-1000001 : Int32), h13)))

theorem m_X11_errand : MI yX11_errand cX11_errand 5 (some .int) 3 := ⟨co_X11_errand, ini_X11, by decide, by decide +kernel⟩
set_option maxRecDepth 100000 in
set_option maxHeartbeats 4000000 in
theorem k_X11_errand {lo : Nat} {h : Hp} {x0 : Nat} {x1 : Int32} {x2 : Int32} {x3 : Int32} {r : Int32} {h' : Hp} (e : f_X11_errand h x0 x1 x2 x3 = some (r, h')) : ∀ l d, AC l d lo yX11_errand cX11_errand 5 (some .int) ({ frames := 4, cells := 0, slots := 0, locals := 122 } : Room) [.ref (lo + x0), .int x1, .int x2, .int x3] h (some (.int r)) h' := by
  intro l d
  refine AC_of (by decide) (Nat.le_of_ble_eq_true rfl) ?_
  intro G C _ _ q
  unfold f_X11_errand at e
  show AW G lo 0 0 0 [(0, .ref (lo + x0)), (1, .int x1), (2, .int x2), (3, .int x3)] [] h
  refine a_aload_n C dX11_errand_0 rfl 0 rfl ?_
  obtain ⟨a2, e1, e⟩ := bA_some e
  refine a_getN C cb10 3 (by decide) fl_X11_33 rfl dX11_errand_1 e1 ?_
  obtain ⟨u9, ec8, e⟩ := bA_some e
  obtain ⟨fs7, eo6⟩ := isC_some ec8
  obtain ⟨r5, h3, e4, e⟩ := b2_some e
  refine a_callV (as := []) (rest := []) C m_X3_stands im_X3_stands cb2 se_X3_X3_stands_X3_stands ml_X11_161 rfl (Nat.le_of_ble_eq_true rfl) (Nat.le_of_ble_eq_true rfl) (Nat.le_of_ble_eq_true rfl) (Nat.le_of_ble_eq_true rfl) (Nat.le_of_ble_eq_true rfl) dX11_errand_4 eo6 (k_X3_stands e4) rfl ?_
  show AW G lo 0 0 7 [(0, .ref (lo + x0)), (1, .int x1), (2, .int x2), (3, .int x3)] [.int r5] h3
  refine a_if_ne (tgt := 13) C dX11_errand_7 (by decide) (fun c12 => ?_) (fun c12 => ?_)
  · have e := iN c12 e
    refine a_iload_n C dX11_errand_13 rfl 1 rfl ?_
    refine a_iload_n C dX11_errand_14 rfl 3 rfl ?_
    obtain ⟨r15, h13, e14, e⟩ := b2_some e
    refine a_callS (as := [.int x1, .int x3]) (rest := []) C m_X11_isBadRoute sm_X11_isBadRoute ml_X11_164 rfl (Nat.le_of_ble_eq_true rfl) (Nat.le_of_ble_eq_true rfl) (Nat.le_of_ble_eq_true rfl) (Nat.le_of_ble_eq_true rfl) (Nat.le_of_ble_eq_true rfl) dX11_errand_15 (k_X11_isBadRoute e14) rfl ?_
    show AW G lo 0 0 18 [(0, .ref (lo + x0)), (1, .int x1), (2, .int x2), (3, .int x3)] [.int r15] h13
    refine a_if_eq (tgt := 24) C dX11_errand_18 (by decide) (fun c21 => ?_) (fun c21 => ?_)
    · have e := ip c21 e
      refine a_aload_n C dX11_errand_24 rfl 0 rfl ?_
      refine a_iload_n C dX11_errand_25 rfl 1 rfl ?_
      refine a_iload_n C dX11_errand_26 rfl 2 rfl ?_
      refine a_iload_n C dX11_errand_27 rfl 3 rfl ?_
      obtain ⟨u28, ec27, e⟩ := bA_some e
      obtain ⟨fs26, eo25⟩ := isC_some ec27
      obtain ⟨r24, h22, e23, e⟩ := b2_some e
      refine a_callV (as := [.int x1, .int x2, .int x3]) (rest := []) C m_X11_lackOfRoute im_X11_lackOfRoute cb10 se_X11_X11_lackOfRoute_X11_lackOfRoute ml_X11_167 rfl (Nat.le_of_ble_eq_true rfl) (Nat.le_of_ble_eq_true rfl) (Nat.le_of_ble_eq_true rfl) (Nat.le_of_ble_eq_true rfl) (Nat.le_of_ble_eq_true rfl) dX11_errand_28 eo25 (k_X11_lackOfRoute e23) rfl ?_
      show AW G lo 0 0 31 [(0, .ref (lo + x0)), (1, .int x1), (2, .int x2), (3, .int x3)] [.int r24] h22
      refine a_istore (lv2 := [(4, .int r24), (0, .ref (lo + x0)), (1, .int x1), (2, .int x2), (3, .int x3)]) C dX11_errand_31 (by decide) rfl ?_
      refine a_iload C dX11_errand_33 0 rfl ?_
      refine a_if_eq (tgt := 45) C dX11_errand_35 (by decide) (fun c31 => ?_) (fun c31 => ?_)
      · have e := ip c31 e
        refine a_aload_n C dX11_errand_45 rfl 1 rfl ?_
        obtain ⟨u38, ec37, e⟩ := bA_some e
        obtain ⟨fs36, eo35⟩ := isC_some ec37
        obtain ⟨h32, e33, e⟩ := bA_some e
        refine a_callV (as := []) (rest := []) C m_X11_keepAct im_X11_keepAct cb10 se_X11_X11_keepAct_X11_keepAct ml_X11_171 rfl (Nat.le_of_ble_eq_true rfl) (Nat.le_of_ble_eq_true rfl) (Nat.le_of_ble_eq_true rfl) (Nat.le_of_ble_eq_true rfl) (Nat.le_of_ble_eq_true rfl) dX11_errand_46 eo35 (k_X11_keepAct e33) rfl ?_
        show AW G lo 0 0 49 [(4, .int r24), (0, .ref (lo + x0)), (1, .int x1), (2, .int x2), (3, .int x3)] [] h32
        refine a_aload_n C dX11_errand_49 rfl 1 rfl ?_
        obtain ⟨a42, e41, e⟩ := bA_some e
        refine a_getN C cb10 2 (by decide) fl_X11_25 rfl dX11_errand_50 e41 ?_
        refine a_aload_n C dX11_errand_53 rfl 1 rfl ?_
        obtain ⟨a44, e43, e⟩ := bA_some e
        refine a_getN C cb10 0 (by decide) fl_X11_11 rfl dX11_errand_54 e43 ?_
        refine a_iload_n C dX11_errand_57 rfl 2 rfl ?_
        obtain ⟨a46, e45, e⟩ := bA_some e
        refine a_aldn C (by decide) dX11_errand_58 e45 ?_
        obtain ⟨a48, e47, e⟩ := bA_some e
        refine a_getN C cb7 0 (by decide) fl_X11_103 rfl dX11_errand_59 e47 ?_
        refine a_iload_n C dX11_errand_62 rfl 3 rfl ?_
        refine a_iload_n C dX11_errand_63 rfl 4 rfl ?_
        obtain ⟨u55, ec54, e⟩ := bA_some e
        obtain ⟨fs53, eo52⟩ := isC_some ec54
        obtain ⟨h49, e50, e⟩ := bA_some e
        refine a_callV (as := [.ref (lo + a48), .int x2, .int x3]) (rest := []) C m_X10_go im_X10_go cb9 se_X10_X10_go_X10_go ml_X11_174 rfl (Nat.le_of_ble_eq_true rfl) (Nat.le_of_ble_eq_true rfl) (Nat.le_of_ble_eq_true rfl) (Nat.le_of_ble_eq_true rfl) (Nat.le_of_ble_eq_true rfl) dX11_errand_64 eo52 (k_X10_go e50) rfl ?_
        show AW G lo 0 0 67 [(4, .int r24), (0, .ref (lo + x0)), (1, .int x1), (2, .int x2), (3, .int x3)] [] h49
        refine a_aload_n C dX11_errand_67 rfl 1 rfl ?_
        obtain ⟨a59, e58, e⟩ := bA_some e
        refine a_getN C cb10 2 (by decide) fl_X11_25 rfl dX11_errand_68 e58 ?_
        obtain ⟨g61, e60, e⟩ := bA_some e
        refine a_getI C cb9 10 (by decide) fl_X11_178 rfl dX11_errand_71 e60 ?_
        obtain ⟨j63, h64, eb66, e⟩ := b2_some e
        have jj65 : AW G lo 0 0 102 [(0, .ref (lo + x0)), (1, .int x1), (2, .int x2), (3, .int x3), (4, .int r24)] [.int j63] h64 := by
          obtain ⟨rfl, rfl⟩ := sp2 e
          exact a_iret C q (Nat.le_of_ble_eq_true rfl) (Nat.le_of_ble_eq_true rfl) dX11_errand_102
        have e := eb66
        refine a_if_ne (tgt := 91) C dX11_errand_74 (by decide) (fun c62 => ?_) (fun c62 => ?_)
        · have e := iN c62 e
          refine a_aload_n C dX11_errand_91 rfl 1 rfl ?_
          refine a_aload_n C dX11_errand_92 rfl 1 rfl ?_
          obtain ⟨a68, e67, e⟩ := bA_some e
          refine a_getN C cb10 2 (by decide) fl_X11_25 rfl dX11_errand_93 e67 ?_
          obtain ⟨g70, e69, e⟩ := bA_some e
          refine a_getI C cb9 10 (by decide) fl_X11_178 rfl dX11_errand_96 e69 ?_
          obtain ⟨u77, ec76, e⟩ := bA_some e
          obtain ⟨fs75, eo74⟩ := isC_some ec76
          obtain ⟨r73, h71, e72, e⟩ := b2_some e
          refine a_callV (as := [.int g70]) (rest := []) C m_X11_found im_X11_found cb10 se_X11_X11_found_X11_found ml_X11_76 rfl (Nat.le_of_ble_eq_true rfl) (Nat.le_of_ble_eq_true rfl) (Nat.le_of_ble_eq_true rfl) (Nat.le_of_ble_eq_true rfl) (Nat.le_of_ble_eq_true rfl) dX11_errand_99 eo74 (k_X11_found e72) rfl ?_
          show AW G lo 0 0 102 [(4, .int r24), (0, .ref (lo + x0)), (1, .int x1), (2, .int x2), (3, .int x3)] [.int r73] h71
          obtain ⟨rfl, rfl⟩ := sp2 e
          exact a_widen (Nat.le_of_ble_eq_true rfl) (Nat.le_of_ble_eq_true rfl) (a_sub [1, 2, 3, 4, 0] rfl jj65)
        · have e := ip c62 e
          refine a_aload_n C dX11_errand_77 rfl 1 rfl ?_
          refine a_aload_n C dX11_errand_78 rfl 1 rfl ?_
          obtain ⟨a81, e80, e⟩ := bA_some e
          refine a_getN C cb10 2 (by decide) fl_X11_25 rfl dX11_errand_79 e80 ?_
          obtain ⟨g83, e82, e⟩ := bA_some e
          refine a_getI C cb9 9 (by decide) fl_X11_181 rfl dX11_errand_82 e82 ?_
          obtain ⟨u90, ec89, e⟩ := bA_some e
          obtain ⟨fs88, eo87⟩ := isC_some ec89
          obtain ⟨r86, h84, e85, e⟩ := b2_some e
          refine a_callV (as := [.int g83]) (rest := []) C m_X11_well im_X11_well cb10 se_X11_X11_well_X11_well ml_X11_84 rfl (Nat.le_of_ble_eq_true rfl) (Nat.le_of_ble_eq_true rfl) (Nat.le_of_ble_eq_true rfl) (Nat.le_of_ble_eq_true rfl) (Nat.le_of_ble_eq_true rfl) dX11_errand_85 eo87 (k_X11_well e85) rfl ?_
          show AW G lo 0 0 88 [(4, .int r24), (0, .ref (lo + x0)), (1, .int x1), (2, .int x2), (3, .int x3)] [.int r86] h84
          refine a_goto (tgt := 102) C dX11_errand_88 (by decide) ?_
          obtain ⟨rfl, rfl⟩ := sp2 e
          exact a_widen (Nat.le_of_ble_eq_true rfl) (Nat.le_of_ble_eq_true rfl) (a_sub [1, 2, 3, 4, 0] rfl jj65)
      · have e := iN c31 e
        refine a_aload_n C dX11_errand_38 rfl 1 rfl ?_
        refine a_iload C dX11_errand_39 0 rfl ?_
        obtain ⟨u99, ec98, e⟩ := bA_some e
        obtain ⟨fs97, eo96⟩ := isC_some ec98
        obtain ⟨r95, h93, e94, e⟩ := b2_some e
        refine a_callV (as := [.int r24]) (rest := []) C m_X11_found im_X11_found cb10 se_X11_X11_found_X11_found ml_X11_76 rfl (Nat.le_of_ble_eq_true rfl) (Nat.le_of_ble_eq_true rfl) (Nat.le_of_ble_eq_true rfl) (Nat.le_of_ble_eq_true rfl) (Nat.le_of_ble_eq_true rfl) dX11_errand_41 eo96 (k_X11_found e94) rfl ?_
        show AW G lo 0 0 44 [(4, .int r24), (0, .ref (lo + x0)), (1, .int x1), (2, .int x2), (3, .int x3)] [.int r95] h93
        obtain ⟨rfl, rfl⟩ := sp2 e
        exact a_iret C q (Nat.le_of_ble_eq_true rfl) (Nat.le_of_ble_eq_true rfl) dX11_errand_44
    · have e := iN c21 e
      refine a_ldc C ko_X11_75 dX11_errand_21 ?_
      obtain ⟨rfl, rfl⟩ := sp2 e
      exact a_iret C q (Nat.le_of_ble_eq_true rfl) (Nat.le_of_ble_eq_true rfl) dX11_errand_23
  · have e := ip c12 e
    refine a_ldc C ko_X11_157 dX11_errand_10 ?_
    obtain ⟨rfl, rfl⟩ := sp2 e
    exact a_iret C q (Nat.le_of_ble_eq_true rfl) (Nat.le_of_ble_eq_true rfl) dX11_errand_12

set_option maxRecDepth 100000 in
def f_X11_ledger (h : Hp) (x0 : Nat) (x1 : Int32) : Option (Int32 × Hp) := bA (gN h x0 10 4) fun a2 => bA (isC h a2 5) fun u9 => b2 (f_X6_at h a2 x1) fun r5 h3 => some (r5, h3)

theorem m_X11_ledger : MI yX11_ledger cX11_ledger 2 (some .int) 1 := ⟨co_X11_ledger, ini_X11, by decide, by decide +kernel⟩
set_option maxRecDepth 100000 in
set_option maxHeartbeats 4000000 in
theorem k_X11_ledger {lo : Nat} {h : Hp} {x0 : Nat} {x1 : Int32} {r : Int32} {h' : Hp} (e : f_X11_ledger h x0 x1 = some (r, h')) : ∀ l d, AC l d lo yX11_ledger cX11_ledger 2 (some .int) ({ frames := 1, cells := 0, slots := 0, locals := 21 } : Room) [.ref (lo + x0), .int x1] h (some (.int r)) h' := by
  intro l d
  refine AC_of (by decide) (Nat.le_of_ble_eq_true rfl) ?_
  intro G C _ _ q
  unfold f_X11_ledger at e
  show AW G lo 0 0 0 [(0, .ref (lo + x0)), (1, .int x1)] [] h
  refine a_aload_n C dX11_ledger_0 rfl 0 rfl ?_
  obtain ⟨a2, e1, e⟩ := bA_some e
  refine a_getN C cb10 4 (by decide) fl_X11_38 rfl dX11_ledger_1 e1 ?_
  refine a_iload_n C dX11_ledger_4 rfl 1 rfl ?_
  obtain ⟨u9, ec8, e⟩ := bA_some e
  obtain ⟨fs7, eo6⟩ := isC_some ec8
  obtain ⟨r5, h3, e4, e⟩ := b2_some e
  refine a_callV (as := [.int x1]) (rest := []) C m_X6_at im_X6_at cb5 se_X6_X6_at_X6_at ml_X11_184 rfl (Nat.le_of_ble_eq_true rfl) (Nat.le_of_ble_eq_true rfl) (Nat.le_of_ble_eq_true rfl) (Nat.le_of_ble_eq_true rfl) (Nat.le_of_ble_eq_true rfl) dX11_ledger_5 eo6 (k_X6_at e4) rfl ?_
  show AW G lo 0 0 8 [(0, .ref (lo + x0)), (1, .int x1)] [.int r5] h3
  obtain ⟨rfl, rfl⟩ := sp2 e
  exact a_iret C q (Nat.le_of_ble_eq_true rfl) (Nat.le_of_ble_eq_true rfl) dX11_ledger_8

set_option maxRecDepth 100000 in
def f_X11_oil (h : Hp) (x0 : Nat) (x1 : Int32) : Option (Int32 × Hp) := bA (gN h x0 10 3) fun a2 => bA (isC h a2 2) fun u9 => b2 (f_X3_lacksDoor h a2 x1) fun r5 h3 => (if r5 = 0 then bA (gN h3 x0 10 3) fun a14 => bA (gN h3 a14 2 1) fun a16 => bA (ald h3 a16 0 x1) fun v17 => (if v17 = 0 then some ((-1000002 : Int32), h3) else bA (isC h3 x0 10) fun u26 => bA (f_X11_keepAct h3 x0 ) fun h20 => bA (gN h20 x0 10 3) fun a30 => bA (gN h20 a30 2 1) fun a32 => bA (ast h20 a32 0 x1 (0 : Int32)) fun h33 => some (v17, h33)) else some ((-1000001 : Int32), h3))

theorem m_X11_oil : MI yX11_oil cX11_oil 3 (some .int) 1 := ⟨co_X11_oil, ini_X11, by decide, by decide +kernel⟩
set_option maxRecDepth 100000 in
set_option maxHeartbeats 4000000 in
theorem k_X11_oil {lo : Nat} {h : Hp} {x0 : Nat} {x1 : Int32} {r : Int32} {h' : Hp} (e : f_X11_oil h x0 x1 = some (r, h')) : ∀ l d, AC l d lo yX11_oil cX11_oil 3 (some .int) ({ frames := 3, cells := 0, slots := 0, locals := 122 } : Room) [.ref (lo + x0), .int x1] h (some (.int r)) h' := by
  intro l d
  refine AC_of (by decide) (Nat.le_of_ble_eq_true rfl) ?_
  intro G C _ _ q
  unfold f_X11_oil at e
  show AW G lo 0 0 0 [(0, .ref (lo + x0)), (1, .int x1)] [] h
  refine a_aload_n C dX11_oil_0 rfl 0 rfl ?_
  obtain ⟨a2, e1, e⟩ := bA_some e
  refine a_getN C cb10 3 (by decide) fl_X11_33 rfl dX11_oil_1 e1 ?_
  refine a_iload_n C dX11_oil_4 rfl 1 rfl ?_
  obtain ⟨u9, ec8, e⟩ := bA_some e
  obtain ⟨fs7, eo6⟩ := isC_some ec8
  obtain ⟨r5, h3, e4, e⟩ := b2_some e
  refine a_callV (as := [.int x1]) (rest := []) C m_X3_lacksDoor im_X3_lacksDoor cb2 se_X3_X3_lacksDoor_X3_lacksDoor ml_X11_186 rfl (Nat.le_of_ble_eq_true rfl) (Nat.le_of_ble_eq_true rfl) (Nat.le_of_ble_eq_true rfl) (Nat.le_of_ble_eq_true rfl) (Nat.le_of_ble_eq_true rfl) dX11_oil_5 eo6 (k_X3_lacksDoor e4) rfl ?_
  show AW G lo 0 0 8 [(0, .ref (lo + x0)), (1, .int x1)] [.int r5] h3
  refine a_if_eq (tgt := 14) C dX11_oil_8 (by decide) (fun c12 => ?_) (fun c12 => ?_)
  · have e := ip c12 e
    refine a_aload_n C dX11_oil_14 rfl 0 rfl ?_
    obtain ⟨a14, e13, e⟩ := bA_some e
    refine a_getN C cb10 3 (by decide) fl_X11_33 rfl dX11_oil_15 e13 ?_
    obtain ⟨a16, e15, e⟩ := bA_some e
    refine a_getN C cb2 1 (by decide) fl_X11_189 rfl dX11_oil_18 e15 ?_
    refine a_iload_n C dX11_oil_21 rfl 1 rfl ?_
    obtain ⟨v17, e18, e⟩ := bA_some e
    refine a_iald C dX11_oil_22 e18 ?_
    refine a_istore_n (lv2 := [(2, .int v17), (0, .ref (lo + x0)), (1, .int x1)]) C dX11_oil_23 rfl (by decide) rfl ?_
    refine a_iload_n C dX11_oil_24 rfl 0 rfl ?_
    refine a_if_ne (tgt := 31) C dX11_oil_25 (by decide) (fun c19 => ?_) (fun c19 => ?_)
    · have e := iN c19 e
      refine a_aload_n C dX11_oil_31 rfl 1 rfl ?_
      obtain ⟨u26, ec25, e⟩ := bA_some e
      obtain ⟨fs24, eo23⟩ := isC_some ec25
      obtain ⟨h20, e21, e⟩ := bA_some e
      refine a_callV (as := []) (rest := []) C m_X11_keepAct im_X11_keepAct cb10 se_X11_X11_keepAct_X11_keepAct ml_X11_171 rfl (Nat.le_of_ble_eq_true rfl) (Nat.le_of_ble_eq_true rfl) (Nat.le_of_ble_eq_true rfl) (Nat.le_of_ble_eq_true rfl) (Nat.le_of_ble_eq_true rfl) dX11_oil_32 eo23 (k_X11_keepAct e21) rfl ?_
      show AW G lo 0 0 35 [(2, .int v17), (0, .ref (lo + x0)), (1, .int x1)] [] h20
      refine a_aload_n C dX11_oil_35 rfl 1 rfl ?_
      obtain ⟨a30, e29, e⟩ := bA_some e
      refine a_getN C cb10 3 (by decide) fl_X11_33 rfl dX11_oil_36 e29 ?_
      obtain ⟨a32, e31, e⟩ := bA_some e
      refine a_getN C cb2 1 (by decide) fl_X11_189 rfl dX11_oil_39 e31 ?_
      refine a_iload_n C dX11_oil_42 rfl 2 rfl ?_
      refine a_iconst (v := (0 : Int32)) C dX11_oil_43 (by decide) ?_
      obtain ⟨h33, e34, e⟩ := bA_some e
      refine a_iast C dX11_oil_44 e34 ?_
      refine a_iload_n C dX11_oil_45 rfl 0 rfl ?_
      obtain ⟨rfl, rfl⟩ := sp2 e
      exact a_iret C q (Nat.le_of_ble_eq_true rfl) (Nat.le_of_ble_eq_true rfl) dX11_oil_46
    · have e := ip c19 e
      refine a_ldc C ko_X11_157 dX11_oil_28 ?_
      obtain ⟨rfl, rfl⟩ := sp2 e
      exact a_iret C q (Nat.le_of_ble_eq_true rfl) (Nat.le_of_ble_eq_true rfl) dX11_oil_30
  · have e := iN c12 e
    refine a_ldc C ko_X11_75 dX11_oil_11 ?_
    obtain ⟨rfl, rfl⟩ := sp2 e
    exact a_iret C q (Nat.le_of_ble_eq_true rfl) (Nat.le_of_ble_eq_true rfl) dX11_oil_13

set_option maxRecDepth 100000 in
def f_X11_bring (h : Hp) (x0 : Nat) (x1 : Int32) (x2 : Int32) : Option (Int32 × Hp) := bA (gN h x0 10 3) fun a2 => bA (isC h a2 2) fun u9 => b2 (f_X3_lacksRoom h a2 x1) fun r5 h3 => (if r5 = 0 then (if x2 < (1 : Int32) then some ((-1000001 : Int32), h3) else (if x2 ≤ (20 : Int32) then bA (gN h3 x0 10 3) fun a16 => bA (gN h3 a16 2 0) fun a18 => bA (ald h3 a18 0 x1) fun v19 => (if v19 = 0 then bA (isC h3 x0 10) fun u28 => bA (f_X11_keepAct h3 x0 ) fun h22 => bA (gN h22 x0 10 3) fun a32 => bA (gN h22 a32 2 0) fun a34 => bA (ast h22 a34 0 x1 x2) fun h35 => bA (gN h35 x0 10 3) fun a38 => bA (isC h35 a38 2) fun u45 => b2 (f_X3_weightOfAll h35 a38 ) fun r41 h39 => some (r41, h39) else some ((-1000002 : Int32), h3)) else some ((-1000001 : Int32), h3))) else some ((-1000001 : Int32), h3))

theorem m_X11_bring : MI yX11_bring cX11_bring 3 (some .int) 2 := ⟨co_X11_bring, ini_X11, by decide, by decide +kernel⟩
set_option maxRecDepth 100000 in
set_option maxHeartbeats 4000000 in
theorem k_X11_bring {lo : Nat} {h : Hp} {x0 : Nat} {x1 : Int32} {x2 : Int32} {r : Int32} {h' : Hp} (e : f_X11_bring h x0 x1 x2 = some (r, h')) : ∀ l d, AC l d lo yX11_bring cX11_bring 3 (some .int) ({ frames := 3, cells := 0, slots := 0, locals := 122 } : Room) [.ref (lo + x0), .int x1, .int x2] h (some (.int r)) h' := by
  intro l d
  refine AC_of (by decide) (Nat.le_of_ble_eq_true rfl) ?_
  intro G C _ _ q
  unfold f_X11_bring at e
  show AW G lo 0 0 0 [(0, .ref (lo + x0)), (1, .int x1), (2, .int x2)] [] h
  refine a_aload_n C dX11_bring_0 rfl 0 rfl ?_
  obtain ⟨a2, e1, e⟩ := bA_some e
  refine a_getN C cb10 3 (by decide) fl_X11_33 rfl dX11_bring_1 e1 ?_
  refine a_iload_n C dX11_bring_4 rfl 1 rfl ?_
  obtain ⟨u9, ec8, e⟩ := bA_some e
  obtain ⟨fs7, eo6⟩ := isC_some ec8
  obtain ⟨r5, h3, e4, e⟩ := b2_some e
  refine a_callV (as := [.int x1]) (rest := []) C m_X3_lacksRoom im_X3_lacksRoom cb2 se_X3_X3_lacksRoom_X3_lacksRoom ml_X11_192 rfl (Nat.le_of_ble_eq_true rfl) (Nat.le_of_ble_eq_true rfl) (Nat.le_of_ble_eq_true rfl) (Nat.le_of_ble_eq_true rfl) (Nat.le_of_ble_eq_true rfl) dX11_bring_5 eo6 (k_X3_lacksRoom e4) rfl ?_
  show AW G lo 0 0 8 [(0, .ref (lo + x0)), (1, .int x1), (2, .int x2)] [.int r5] h3
  refine a_if_ne (tgt := 22) C dX11_bring_8 (by decide) (fun c12 => ?_) (fun c12 => ?_)
  · have e := iN c12 e
    refine a_ldc C ko_X11_75 dX11_bring_22 ?_
    obtain ⟨rfl, rfl⟩ := sp2 e
    exact a_iret C q (Nat.le_of_ble_eq_true rfl) (Nat.le_of_ble_eq_true rfl) dX11_bring_24
  · have e := ip c12 e
    refine a_iload_n C dX11_bring_11 rfl 2 rfl ?_
    refine a_iconst (v := (1 : Int32)) C dX11_bring_12 (by decide) ?_
    refine a_icmp_lt (tgt := 22) C dX11_bring_13 (by decide) (fun c13 => ?_) (fun c13 => ?_)
    · have e := ip c13 e
      refine a_ldc C ko_X11_75 dX11_bring_22 ?_
      obtain ⟨rfl, rfl⟩ := sp2 e
      exact a_iret C q (Nat.le_of_ble_eq_true rfl) (Nat.le_of_ble_eq_true rfl) dX11_bring_24
    · have e := iN c13 e
      refine a_iload_n C dX11_bring_16 rfl 2 rfl ?_
      refine a_bipush (v := (20 : Int32)) C dX11_bring_17 (by decide) ?_
      refine a_icmp_le (tgt := 25) C dX11_bring_19 (by decide) (fun c14 => ?_) (fun c14 => ?_)
      · have e := ip c14 e
        refine a_aload_n C dX11_bring_25 rfl 0 rfl ?_
        obtain ⟨a16, e15, e⟩ := bA_some e
        refine a_getN C cb10 3 (by decide) fl_X11_33 rfl dX11_bring_26 e15 ?_
        obtain ⟨a18, e17, e⟩ := bA_some e
        refine a_getN C cb2 0 (by decide) fl_X11_195 rfl dX11_bring_29 e17 ?_
        refine a_iload_n C dX11_bring_32 rfl 1 rfl ?_
        obtain ⟨v19, e20, e⟩ := bA_some e
        refine a_iald C dX11_bring_33 e20 ?_
        refine a_if_eq (tgt := 40) C dX11_bring_34 (by decide) (fun c21 => ?_) (fun c21 => ?_)
        · have e := ip c21 e
          refine a_aload_n C dX11_bring_40 rfl 0 rfl ?_
          obtain ⟨u28, ec27, e⟩ := bA_some e
          obtain ⟨fs26, eo25⟩ := isC_some ec27
          obtain ⟨h22, e23, e⟩ := bA_some e
          refine a_callV (as := []) (rest := []) C m_X11_keepAct im_X11_keepAct cb10 se_X11_X11_keepAct_X11_keepAct ml_X11_171 rfl (Nat.le_of_ble_eq_true rfl) (Nat.le_of_ble_eq_true rfl) (Nat.le_of_ble_eq_true rfl) (Nat.le_of_ble_eq_true rfl) (Nat.le_of_ble_eq_true rfl) dX11_bring_41 eo25 (k_X11_keepAct e23) rfl ?_
          show AW G lo 0 0 44 [(0, .ref (lo + x0)), (1, .int x1), (2, .int x2)] [] h22
          refine a_aload_n C dX11_bring_44 rfl 0 rfl ?_
          obtain ⟨a32, e31, e⟩ := bA_some e
          refine a_getN C cb10 3 (by decide) fl_X11_33 rfl dX11_bring_45 e31 ?_
          obtain ⟨a34, e33, e⟩ := bA_some e
          refine a_getN C cb2 0 (by decide) fl_X11_195 rfl dX11_bring_48 e33 ?_
          refine a_iload_n C dX11_bring_51 rfl 1 rfl ?_
          refine a_iload_n C dX11_bring_52 rfl 2 rfl ?_
          obtain ⟨h35, e36, e⟩ := bA_some e
          refine a_iast C dX11_bring_53 e36 ?_
          refine a_aload_n C dX11_bring_54 rfl 0 rfl ?_
          obtain ⟨a38, e37, e⟩ := bA_some e
          refine a_getN C cb10 3 (by decide) fl_X11_33 rfl dX11_bring_55 e37 ?_
          obtain ⟨u45, ec44, e⟩ := bA_some e
          obtain ⟨fs43, eo42⟩ := isC_some ec44
          obtain ⟨r41, h39, e40, e⟩ := b2_some e
          refine a_callV (as := []) (rest := []) C m_X3_weightOfAll im_X3_weightOfAll cb2 se_X3_X3_weightOfAll_X3_weightOfAll ml_X11_197 rfl (Nat.le_of_ble_eq_true rfl) (Nat.le_of_ble_eq_true rfl) (Nat.le_of_ble_eq_true rfl) (Nat.le_of_ble_eq_true rfl) (Nat.le_of_ble_eq_true rfl) dX11_bring_58 eo42 (k_X3_weightOfAll e40) rfl ?_
          show AW G lo 0 0 61 [(0, .ref (lo + x0)), (1, .int x1), (2, .int x2)] [.int r41] h39
          obtain ⟨rfl, rfl⟩ := sp2 e
          exact a_iret C q (Nat.le_of_ble_eq_true rfl) (Nat.le_of_ble_eq_true rfl) dX11_bring_61
        · have e := iN c21 e
          refine a_ldc C ko_X11_157 dX11_bring_37 ?_
          obtain ⟨rfl, rfl⟩ := sp2 e
          exact a_iret C q (Nat.le_of_ble_eq_true rfl) (Nat.le_of_ble_eq_true rfl) dX11_bring_39
      · have e := iN c14 e
        refine a_ldc C ko_X11_75 dX11_bring_22 ?_
        obtain ⟨rfl, rfl⟩ := sp2 e
        exact a_iret C q (Nat.le_of_ble_eq_true rfl) (Nat.le_of_ble_eq_true rfl) dX11_bring_24

set_option maxRecDepth 100000 in
def f_X11_rule (h : Hp) (x0 : Nat) (x1 : Int32) (x2 : Int32) : Option (Int32 × Hp) := bA (gN h x0 10 3) fun a2 => bA (isC h a2 2) fun u9 => b2 (f_X3_stands h a2 ) fun r5 h3 => (if r5 = 0 then some ((-1000002 : Int32), h3) else b2 (f_X11_isRule h3 x1 x2) fun r15 h13 => (if r15 = 0 then some ((-1000001 : Int32), h13) else bA (isC h13 x0 10) fun u28 => bA (f_X11_keepAct h13 x0 ) fun h22 => b2 (if x1 = 0 then bA (gN h22 x0 10 3) fun a54 => bA (gI h22 a54 2 7) fun g56 => bA (gN h22 x0 10 3) fun a58 => bA (pV h22 a58 2 7 (.inl x2)) fun h60 => some (g56, h60) else (if x1 = (1 : Int32) then bA (gN h22 x0 10 3) fun a46 => bA (gI h22 a46 2 5) fun g48 => bA (gN h22 x0 10 3) fun a50 => bA (pV h22 a50 2 5 (.inl x2)) fun h52 => some (g48, h52) else bA (gN h22 x0 10 3) fun a38 => bA (gI h22 a38 2 6) fun g40 => bA (gN h22 x0 10 3) fun a42 => bA (pV h22 a42 2 6 (.inl x2)) fun h44 => some (g40, h44))) fun j32 h33 => some (j32, h33)))

theorem m_X11_rule : MI yX11_rule cX11_rule 4 (some .int) 2 := ⟨co_X11_rule, ini_X11, by decide, by decide +kernel⟩
set_option maxRecDepth 100000 in
set_option maxHeartbeats 4000000 in
theorem k_X11_rule {lo : Nat} {h : Hp} {x0 : Nat} {x1 : Int32} {x2 : Int32} {r : Int32} {h' : Hp} (e : f_X11_rule h x0 x1 x2 = some (r, h')) : ∀ l d, AC l d lo yX11_rule cX11_rule 4 (some .int) ({ frames := 3, cells := 0, slots := 0, locals := 122 } : Room) [.ref (lo + x0), .int x1, .int x2] h (some (.int r)) h' := by
  intro l d
  refine AC_of (by decide) (Nat.le_of_ble_eq_true rfl) ?_
  intro G C _ _ q
  unfold f_X11_rule at e
  show AW G lo 0 0 0 [(0, .ref (lo + x0)), (1, .int x1), (2, .int x2)] [] h
  refine a_aload_n C dX11_rule_0 rfl 0 rfl ?_
  obtain ⟨a2, e1, e⟩ := bA_some e
  refine a_getN C cb10 3 (by decide) fl_X11_33 rfl dX11_rule_1 e1 ?_
  obtain ⟨u9, ec8, e⟩ := bA_some e
  obtain ⟨fs7, eo6⟩ := isC_some ec8
  obtain ⟨r5, h3, e4, e⟩ := b2_some e
  refine a_callV (as := []) (rest := []) C m_X3_stands im_X3_stands cb2 se_X3_X3_stands_X3_stands ml_X11_161 rfl (Nat.le_of_ble_eq_true rfl) (Nat.le_of_ble_eq_true rfl) (Nat.le_of_ble_eq_true rfl) (Nat.le_of_ble_eq_true rfl) (Nat.le_of_ble_eq_true rfl) dX11_rule_4 eo6 (k_X3_stands e4) rfl ?_
  show AW G lo 0 0 7 [(0, .ref (lo + x0)), (1, .int x1), (2, .int x2)] [.int r5] h3
  refine a_if_ne (tgt := 13) C dX11_rule_7 (by decide) (fun c12 => ?_) (fun c12 => ?_)
  · have e := iN c12 e
    refine a_iload_n C dX11_rule_13 rfl 1 rfl ?_
    refine a_iload_n C dX11_rule_14 rfl 2 rfl ?_
    obtain ⟨r15, h13, e14, e⟩ := b2_some e
    refine a_callS (as := [.int x1, .int x2]) (rest := []) C m_X11_isRule sm_X11_isRule ml_X11_201 rfl (Nat.le_of_ble_eq_true rfl) (Nat.le_of_ble_eq_true rfl) (Nat.le_of_ble_eq_true rfl) (Nat.le_of_ble_eq_true rfl) (Nat.le_of_ble_eq_true rfl) dX11_rule_15 (k_X11_isRule e14) rfl ?_
    show AW G lo 0 0 18 [(0, .ref (lo + x0)), (1, .int x1), (2, .int x2)] [.int r15] h13
    refine a_if_ne (tgt := 24) C dX11_rule_18 (by decide) (fun c21 => ?_) (fun c21 => ?_)
    · have e := iN c21 e
      refine a_aload_n C dX11_rule_24 rfl 0 rfl ?_
      obtain ⟨u28, ec27, e⟩ := bA_some e
      obtain ⟨fs26, eo25⟩ := isC_some ec27
      obtain ⟨h22, e23, e⟩ := bA_some e
      refine a_callV (as := []) (rest := []) C m_X11_keepAct im_X11_keepAct cb10 se_X11_X11_keepAct_X11_keepAct ml_X11_171 rfl (Nat.le_of_ble_eq_true rfl) (Nat.le_of_ble_eq_true rfl) (Nat.le_of_ble_eq_true rfl) (Nat.le_of_ble_eq_true rfl) (Nat.le_of_ble_eq_true rfl) dX11_rule_25 eo25 (k_X11_keepAct e23) rfl ?_
      show AW G lo 0 0 28 [(0, .ref (lo + x0)), (1, .int x1), (2, .int x2)] [] h22
      refine a_iload_n C dX11_rule_28 rfl 1 rfl ?_
      obtain ⟨j32, h33, eb35, e⟩ := b2_some e
      have jj34 : AW G lo 0 0 91 [(0, .ref (lo + x0)), (1, .int x1), (2, .int x2), (3, .int j32)] [] h33 := by
        refine a_iload_n C dX11_rule_91 rfl 3 rfl ?_
        obtain ⟨rfl, rfl⟩ := sp2 e
        exact a_iret C q (Nat.le_of_ble_eq_true rfl) (Nat.le_of_ble_eq_true rfl) dX11_rule_92
      have e := eb35
      refine a_if_ne (tgt := 51) C dX11_rule_29 (by decide) (fun c31 => ?_) (fun c31 => ?_)
      · have e := iN c31 e
        refine a_iload_n C dX11_rule_51 rfl 1 rfl ?_
        refine a_iconst (v := (1 : Int32)) C dX11_rule_52 (by decide) ?_
        refine a_icmp_ne (tgt := 75) C dX11_rule_53 (by decide) (fun c36 => ?_) (fun c36 => ?_)
        · have e := iN c36 e
          refine a_aload_n C dX11_rule_75 rfl 0 rfl ?_
          obtain ⟨a38, e37, e⟩ := bA_some e
          refine a_getN C cb10 3 (by decide) fl_X11_33 rfl dX11_rule_76 e37 ?_
          obtain ⟨g40, e39, e⟩ := bA_some e
          refine a_getI C cb2 6 (by decide) fl_X11_210 rfl dX11_rule_79 e39 ?_
          refine a_istore_n (lv2 := [(3, .int g40), (0, .ref (lo + x0)), (1, .int x1), (2, .int x2)]) C dX11_rule_82 rfl (by decide) rfl ?_
          refine a_aload_n C dX11_rule_83 rfl 1 rfl ?_
          obtain ⟨a42, e41, e⟩ := bA_some e
          refine a_getN C cb10 3 (by decide) fl_X11_33 rfl dX11_rule_84 e41 ?_
          refine a_iload_n C dX11_rule_87 rfl 3 rfl ?_
          obtain ⟨h44, e43, e⟩ := bA_some e
          refine a_putI C cb2 6 (by decide) fl_X11_210 rfl (by decide +kernel) dX11_rule_88 e43 ?_
          obtain ⟨rfl, rfl⟩ := sp2 e
          exact a_widen (Nat.le_of_ble_eq_true rfl) (Nat.le_of_ble_eq_true rfl) (a_sub [1, 2, 3, 0] rfl jj34)
        · have e := ip c36 e
          refine a_aload_n C dX11_rule_56 rfl 0 rfl ?_
          obtain ⟨a46, e45, e⟩ := bA_some e
          refine a_getN C cb10 3 (by decide) fl_X11_33 rfl dX11_rule_57 e45 ?_
          obtain ⟨g48, e47, e⟩ := bA_some e
          refine a_getI C cb2 5 (by decide) fl_X11_207 rfl dX11_rule_60 e47 ?_
          refine a_istore_n (lv2 := [(3, .int g48), (0, .ref (lo + x0)), (1, .int x1), (2, .int x2)]) C dX11_rule_63 rfl (by decide) rfl ?_
          refine a_aload_n C dX11_rule_64 rfl 1 rfl ?_
          obtain ⟨a50, e49, e⟩ := bA_some e
          refine a_getN C cb10 3 (by decide) fl_X11_33 rfl dX11_rule_65 e49 ?_
          refine a_iload_n C dX11_rule_68 rfl 3 rfl ?_
          obtain ⟨h52, e51, e⟩ := bA_some e
          refine a_putI C cb2 5 (by decide) fl_X11_207 rfl (by decide +kernel) dX11_rule_69 e51 ?_
          refine a_goto (tgt := 91) C dX11_rule_72 (by decide) ?_
          obtain ⟨rfl, rfl⟩ := sp2 e
          exact a_widen (Nat.le_of_ble_eq_true rfl) (Nat.le_of_ble_eq_true rfl) (a_sub [1, 2, 3, 0] rfl jj34)
      · have e := ip c31 e
        refine a_aload_n C dX11_rule_32 rfl 0 rfl ?_
        obtain ⟨a54, e53, e⟩ := bA_some e
        refine a_getN C cb10 3 (by decide) fl_X11_33 rfl dX11_rule_33 e53 ?_
        obtain ⟨g56, e55, e⟩ := bA_some e
        refine a_getI C cb2 7 (by decide) fl_X11_204 rfl dX11_rule_36 e55 ?_
        refine a_istore_n (lv2 := [(3, .int g56), (0, .ref (lo + x0)), (1, .int x1), (2, .int x2)]) C dX11_rule_39 rfl (by decide) rfl ?_
        refine a_aload_n C dX11_rule_40 rfl 1 rfl ?_
        obtain ⟨a58, e57, e⟩ := bA_some e
        refine a_getN C cb10 3 (by decide) fl_X11_33 rfl dX11_rule_41 e57 ?_
        refine a_iload_n C dX11_rule_44 rfl 3 rfl ?_
        obtain ⟨h60, e59, e⟩ := bA_some e
        refine a_putI C cb2 7 (by decide) fl_X11_204 rfl (by decide +kernel) dX11_rule_45 e59 ?_
        refine a_goto (tgt := 91) C dX11_rule_48 (by decide) ?_
        obtain ⟨rfl, rfl⟩ := sp2 e
        exact a_widen (Nat.le_of_ble_eq_true rfl) (Nat.le_of_ble_eq_true rfl) (a_sub [1, 2, 3, 0] rfl jj34)
    · have e := ip c21 e
      refine a_ldc C ko_X11_75 dX11_rule_21 ?_
      obtain ⟨rfl, rfl⟩ := sp2 e
      exact a_iret C q (Nat.le_of_ble_eq_true rfl) (Nat.le_of_ble_eq_true rfl) dX11_rule_23
  · have e := ip c12 e
    refine a_ldc C ko_X11_157 dX11_rule_10 ?_
    obtain ⟨rfl, rfl⟩ := sp2 e
    exact a_iret C q (Nat.le_of_ble_eq_true rfl) (Nat.le_of_ble_eq_true rfl) dX11_rule_12

set_option maxRecDepth 100000 in
def f_X11_door (h : Hp) (x0 : Nat) (x1 : Int32) (x2 : Int32) : Option (Int32 × Hp) := bA (gN h x0 10 3) fun a2 => bA (isC h a2 2) fun u9 => b2 (f_X3_doorAt h a2 x1) fun r5 h3 => (match r5 with | none => some ((-1000001 : Int32), h3) | some a12 => bA (gN h3 x0 10 3) fun a14 => bA (isC h3 a14 2) fun u21 => b2 (f_X3_lacksDoor h3 a14 x1) fun r17 h15 => (if r17 = 0 then (if x2 = (0 : Int32) then bA (gD h15 a12 1) fun g28 => some (g28, h15) else (if x2 = (1 : Int32) then bA (gD h15 a12 2) fun g31 => some (g31, h15) else (if x2 = (2 : Int32) then bA (gD h15 a12 3) fun g34 => some (g34, h15) else (if x2 = (3 : Int32) then bA (gN h15 x0 10 3) fun a37 => bA (gN h15 a37 2 1) fun a39 => bA (ald h15 a39 0 x1) fun v40 => some (v40, h15) else (if x2 = (4 : Int32) then bA (gN h15 x0 10 3) fun a44 => bA (gN h15 a44 2 1) fun a46 => bA (ald h15 a46 0 x1) fun v47 => bA (gC h15 a12) fun c55 => b2 (v_X2_loud c55 h15 a12 v47) fun r51 h49 => some (r51, h49) else (if x2 = (5 : Int32) then bA (gC h15 a12) fun c64 => b2 (v_X2_gap c64 h15 a12 ) fun r60 h58 => some (r60, h58) else some ((-1000001 : Int32), h15))))))) else some ((-1000001 : Int32), h15)))

theorem m_X11_door : MI yX11_door cX11_door 4 (some .int) 2 := ⟨co_X11_door, ini_X11, by decide, by decide +kernel⟩
set_option maxRecDepth 100000 in
set_option maxHeartbeats 4000000 in
theorem k_X11_door {lo : Nat} {h : Hp} {x0 : Nat} {x1 : Int32} {x2 : Int32} {r : Int32} {h' : Hp} (e : f_X11_door h x0 x1 x2 = some (r, h')) : ∀ l d, AC l d lo yX11_door cX11_door 4 (some .int) ({ frames := 2, cells := 0, slots := 0, locals := 42 } : Room) [.ref (lo + x0), .int x1, .int x2] h (some (.int r)) h' := by
  intro l d
  refine AC_of (by decide) (Nat.le_of_ble_eq_true rfl) ?_
  intro G C _ _ q
  unfold f_X11_door at e
  show AW G lo 0 0 0 [(0, .ref (lo + x0)), (1, .int x1), (2, .int x2)] [] h
  refine a_aload_n C dX11_door_0 rfl 0 rfl ?_
  obtain ⟨a2, e1, e⟩ := bA_some e
  refine a_getN C cb10 3 (by decide) fl_X11_33 rfl dX11_door_1 e1 ?_
  refine a_iload_n C dX11_door_4 rfl 1 rfl ?_
  obtain ⟨u9, ec8, e⟩ := bA_some e
  obtain ⟨fs7, eo6⟩ := isC_some ec8
  obtain ⟨r5, h3, e4, e⟩ := b2_some e
  refine a_callV (as := [.int x1]) (rest := []) C m_X3_doorAt im_X3_doorAt cb2 se_X3_X3_doorAt_X3_doorAt ml_X11_213 rfl (Nat.le_of_ble_eq_true rfl) (Nat.le_of_ble_eq_true rfl) (Nat.le_of_ble_eq_true rfl) (Nat.le_of_ble_eq_true rfl) (Nat.le_of_ble_eq_true rfl) dX11_door_5 eo6 (k_X3_doorAt e4) rfl ?_
  show AW G lo 0 0 8 [(0, .ref (lo + x0)), (1, .int x1), (2, .int x2)] [va_rf (rl lo r5)] h3
  rcases r5 with _ | a12
  · show AW G lo 0 0 8 [(0, .ref (lo + x0)), (1, .int x1), (2, .int x2)] [.null] h3
    refine a_astore_nN (lv2 := [(3, .null), (0, .ref (lo + x0)), (1, .int x1), (2, .int x2)]) C dX11_door_8 rfl (by decide) rfl ?_
    refine a_aload_nN C dX11_door_9 rfl 0 rfl ?_
    refine a_ifnullN (tgt := 24) C dX11_door_10 (by decide) ?_
    refine a_ldc C ko_X11_75 dX11_door_24 ?_
    obtain ⟨rfl, rfl⟩ := sp2 e
    exact a_iret C q (Nat.le_of_ble_eq_true rfl) (Nat.le_of_ble_eq_true rfl) dX11_door_26
  · show AW G lo 0 0 8 [(0, .ref (lo + x0)), (1, .int x1), (2, .int x2)] [.ref (lo + a12)] h3
    refine a_astore_n (lv2 := [(3, .ref (lo + a12)), (0, .ref (lo + x0)), (1, .int x1), (2, .int x2)]) C dX11_door_8 rfl (by decide) rfl ?_
    refine a_aload_n C dX11_door_9 rfl 0 rfl ?_
    refine a_ifnull C dX11_door_10 ?_
    refine a_aload_n C dX11_door_13 rfl 1 rfl ?_
    obtain ⟨a14, e13, e⟩ := bA_some e
    refine a_getN C cb10 3 (by decide) fl_X11_33 rfl dX11_door_14 e13 ?_
    refine a_iload_n C dX11_door_17 rfl 2 rfl ?_
    obtain ⟨u21, ec20, e⟩ := bA_some e
    obtain ⟨fs19, eo18⟩ := isC_some ec20
    obtain ⟨r17, h15, e16, e⟩ := b2_some e
    refine a_callV (as := [.int x1]) (rest := []) C m_X3_lacksDoor im_X3_lacksDoor cb2 se_X3_X3_lacksDoor_X3_lacksDoor ml_X11_186 rfl (Nat.le_of_ble_eq_true rfl) (Nat.le_of_ble_eq_true rfl) (Nat.le_of_ble_eq_true rfl) (Nat.le_of_ble_eq_true rfl) (Nat.le_of_ble_eq_true rfl) dX11_door_18 eo18 (k_X3_lacksDoor e16) rfl ?_
    show AW G lo 0 0 21 [(3, .ref (lo + a12)), (0, .ref (lo + x0)), (1, .int x1), (2, .int x2)] [.int r17] h15
    refine a_if_eq (tgt := 27) C dX11_door_21 (by decide) (fun c24 => ?_) (fun c24 => ?_)
    · have e := ip c24 e
      refine a_iload_n C dX11_door_27 rfl 3 rfl ?_
      have hxx25 : x2 = x2 := rfl
      by_cases c26 : x2 = (0 : Int32)
      · have e := ip c26 e
        refine a_tableIn (tgt := 68) C dX11_door_28 (by rw [c26]; decide) (by rw [c26]; decide) (by rw [c26]; first | done | rfl) (by decide) ?_
        refine a_aload_n C dX11_door_68 rfl 0 rfl ?_
        obtain ⟨g28, e27, e⟩ := bA_some e
        refine a_getD C 1 (by decide) fl_X11_217 (Or.inl rfl) dX11_door_69 e27 ?_
        obtain ⟨rfl, rfl⟩ := sp2 e
        exact a_iret C q (Nat.le_of_ble_eq_true rfl) (Nat.le_of_ble_eq_true rfl) dX11_door_72
      have e := iN c26 e
      by_cases c29 : x2 = (1 : Int32)
      · have e := ip c29 e
        refine a_tableIn (tgt := 73) C dX11_door_28 (by rw [c29]; decide) (by rw [c29]; decide) (by rw [c29]; first | done | rfl) (by decide) ?_
        refine a_aload_n C dX11_door_73 rfl 0 rfl ?_
        obtain ⟨g31, e30, e⟩ := bA_some e
        refine a_getD C 2 (by decide) fl_X11_222 (Or.inl rfl) dX11_door_74 e30 ?_
        obtain ⟨rfl, rfl⟩ := sp2 e
        exact a_iret C q (Nat.le_of_ble_eq_true rfl) (Nat.le_of_ble_eq_true rfl) dX11_door_77
      have e := iN c29 e
      by_cases c32 : x2 = (2 : Int32)
      · have e := ip c32 e
        refine a_tableIn (tgt := 78) C dX11_door_28 (by rw [c32]; decide) (by rw [c32]; decide) (by rw [c32]; first | done | rfl) (by decide) ?_
        refine a_aload_n C dX11_door_78 rfl 0 rfl ?_
        obtain ⟨g34, e33, e⟩ := bA_some e
        refine a_getD C 3 (by decide) fl_X11_225 (Or.inl rfl) dX11_door_79 e33 ?_
        obtain ⟨rfl, rfl⟩ := sp2 e
        exact a_iret C q (Nat.le_of_ble_eq_true rfl) (Nat.le_of_ble_eq_true rfl) dX11_door_82
      have e := iN c32 e
      by_cases c35 : x2 = (3 : Int32)
      · have e := ip c35 e
        refine a_tableIn (tgt := 83) C dX11_door_28 (by rw [c35]; decide) (by rw [c35]; decide) (by rw [c35]; first | done | rfl) (by decide) ?_
        refine a_aload_n C dX11_door_83 rfl 1 rfl ?_
        obtain ⟨a37, e36, e⟩ := bA_some e
        refine a_getN C cb10 3 (by decide) fl_X11_33 rfl dX11_door_84 e36 ?_
        obtain ⟨a39, e38, e⟩ := bA_some e
        refine a_getN C cb2 1 (by decide) fl_X11_189 rfl dX11_door_87 e38 ?_
        refine a_iload_n C dX11_door_90 rfl 2 rfl ?_
        obtain ⟨v40, e41, e⟩ := bA_some e
        refine a_iald C dX11_door_91 e41 ?_
        obtain ⟨rfl, rfl⟩ := sp2 e
        exact a_iret C q (Nat.le_of_ble_eq_true rfl) (Nat.le_of_ble_eq_true rfl) dX11_door_92
      have e := iN c35 e
      by_cases c42 : x2 = (4 : Int32)
      · have e := ip c42 e
        refine a_tableIn (tgt := 93) C dX11_door_28 (by rw [c42]; decide) (by rw [c42]; decide) (by rw [c42]; first | done | rfl) (by decide) ?_
        refine a_aload_n C dX11_door_93 rfl 0 rfl ?_
        refine a_aload_n C dX11_door_94 rfl 1 rfl ?_
        obtain ⟨a44, e43, e⟩ := bA_some e
        refine a_getN C cb10 3 (by decide) fl_X11_33 rfl dX11_door_95 e43 ?_
        obtain ⟨a46, e45, e⟩ := bA_some e
        refine a_getN C cb2 1 (by decide) fl_X11_189 rfl dX11_door_98 e45 ?_
        refine a_iload_n C dX11_door_101 rfl 2 rfl ?_
        obtain ⟨v47, e48, e⟩ := bA_some e
        refine a_iald C dX11_door_102 e48 ?_
        obtain ⟨c55, ec54, e⟩ := bA_some e
        obtain ⟨fs53, eo52, ed56⟩ := gC_some ec54
        obtain ⟨r51, h49, e50, e⟩ := b2_some e
        refine a_callD (as := [.int v47]) (rest := []) C (vd_X2_loud e50) sam_X2_X2_loud du_X2_loud (by decide) ml_X11_228 (Nat.le_of_ble_eq_true rfl) (Nat.le_of_ble_eq_true rfl) (Nat.le_of_ble_eq_true rfl) (Nat.le_of_ble_eq_true rfl) (Nat.le_of_ble_eq_true rfl) dX11_door_103 eo52 rfl ?_
        show AW G lo 0 0 106 [(3, .ref (lo + a12)), (0, .ref (lo + x0)), (1, .int x1), (2, .int x2)] [.int r51] h49
        obtain ⟨rfl, rfl⟩ := sp2 e
        exact a_iret C q (Nat.le_of_ble_eq_true rfl) (Nat.le_of_ble_eq_true rfl) dX11_door_106
      have e := iN c42 e
      by_cases c57 : x2 = (5 : Int32)
      · have e := ip c57 e
        refine a_tableIn (tgt := 107) C dX11_door_28 (by rw [c57]; decide) (by rw [c57]; decide) (by rw [c57]; first | done | rfl) (by decide) ?_
        refine a_aload_n C dX11_door_107 rfl 0 rfl ?_
        obtain ⟨c64, ec63, e⟩ := bA_some e
        obtain ⟨fs62, eo61, ed65⟩ := gC_some ec63
        obtain ⟨r60, h58, e59, e⟩ := b2_some e
        refine a_callD (as := []) (rest := []) C (vd_X2_gap e59) sam_X2_X2_gap du_X2_gap (by decide) ml_X11_231 (Nat.le_of_ble_eq_true rfl) (Nat.le_of_ble_eq_true rfl) (Nat.le_of_ble_eq_true rfl) (Nat.le_of_ble_eq_true rfl) (Nat.le_of_ble_eq_true rfl) dX11_door_108 eo61 rfl ?_
        show AW G lo 0 0 111 [(3, .ref (lo + a12)), (0, .ref (lo + x0)), (1, .int x1), (2, .int x2)] [.int r60] h58
        obtain ⟨rfl, rfl⟩ := sp2 e
        exact a_iret C q (Nat.le_of_ble_eq_true rfl) (Nat.le_of_ble_eq_true rfl) dX11_door_111
      have e := iN c57 e
      refine a_tableOut (tgt := 112) C dX11_door_28 (Classical.byContradiction fun hz => ?_) (by decide) ?_
      · have hz2 : x2.toInt = 0 ∨ x2.toInt = 1 ∨ x2.toInt = 2 ∨ x2.toInt = 3 ∨ x2.toInt = 4 ∨ x2.toInt = 5 := by omega
        rcases hz2 with hz3 | hz3 | hz3 | hz3 | hz3 | hz3
        · exact c26 (Int32.toInt_inj.mp (hz3.trans (by decide)))
        · exact c29 (Int32.toInt_inj.mp (hz3.trans (by decide)))
        · exact c32 (Int32.toInt_inj.mp (hz3.trans (by decide)))
        · exact c35 (Int32.toInt_inj.mp (hz3.trans (by decide)))
        · exact c42 (Int32.toInt_inj.mp (hz3.trans (by decide)))
        · exact c57 (Int32.toInt_inj.mp (hz3.trans (by decide)))
      · refine a_ldc C ko_X11_75 dX11_door_112 ?_
        obtain ⟨rfl, rfl⟩ := sp2 e
        exact a_iret C q (Nat.le_of_ble_eq_true rfl) (Nat.le_of_ble_eq_true rfl) dX11_door_114
    · have e := iN c24 e
      refine a_ldc C ko_X11_75 dX11_door_24 ?_
      obtain ⟨rfl, rfl⟩ := sp2 e
      exact a_iret C q (Nat.le_of_ble_eq_true rfl) (Nat.le_of_ble_eq_true rfl) dX11_door_26

set_option maxRecDepth 100000 in
def f_X11_room (h : Hp) (x0 : Nat) (x1 : Int32) (x2 : Int32) : Option (Int32 × Hp) := bA (gN h x0 10 3) fun a2 => bA (isC h a2 2) fun u9 => b2 (f_X3_lacksRoom h a2 x1) fun r5 h3 => (if r5 = 0 then (if x2 = (0 : Int32) then bA (gN h3 x0 10 3) fun a16 => bA (gN h3 a16 2 0) fun a18 => bA (ald h3 a18 0 x1) fun v19 => some (v19, h3) else (if x2 = (1 : Int32) then bA (gN h3 x0 10 3) fun a23 => bA (isC h3 a23 2) fun u30 => b2 (f_X3_doorsOf h3 a23 x1) fun r26 h24 => some (r26, h24) else some ((-1000001 : Int32), h3))) else some ((-1000001 : Int32), h3))

theorem m_X11_room : MI yX11_room cX11_room 3 (some .int) 2 := ⟨co_X11_room, ini_X11, by decide, by decide +kernel⟩
set_option maxRecDepth 100000 in
set_option maxHeartbeats 4000000 in
theorem k_X11_room {lo : Nat} {h : Hp} {x0 : Nat} {x1 : Int32} {x2 : Int32} {r : Int32} {h' : Hp} (e : f_X11_room h x0 x1 x2 = some (r, h')) : ∀ l d, AC l d lo yX11_room cX11_room 3 (some .int) ({ frames := 3, cells := 0, slots := 0, locals := 66 } : Room) [.ref (lo + x0), .int x1, .int x2] h (some (.int r)) h' := by
  intro l d
  refine AC_of (by decide) (Nat.le_of_ble_eq_true rfl) ?_
  intro G C _ _ q
  unfold f_X11_room at e
  show AW G lo 0 0 0 [(0, .ref (lo + x0)), (1, .int x1), (2, .int x2)] [] h
  refine a_aload_n C dX11_room_0 rfl 0 rfl ?_
  obtain ⟨a2, e1, e⟩ := bA_some e
  refine a_getN C cb10 3 (by decide) fl_X11_33 rfl dX11_room_1 e1 ?_
  refine a_iload_n C dX11_room_4 rfl 1 rfl ?_
  obtain ⟨u9, ec8, e⟩ := bA_some e
  obtain ⟨fs7, eo6⟩ := isC_some ec8
  obtain ⟨r5, h3, e4, e⟩ := b2_some e
  refine a_callV (as := [.int x1]) (rest := []) C m_X3_lacksRoom im_X3_lacksRoom cb2 se_X3_X3_lacksRoom_X3_lacksRoom ml_X11_192 rfl (Nat.le_of_ble_eq_true rfl) (Nat.le_of_ble_eq_true rfl) (Nat.le_of_ble_eq_true rfl) (Nat.le_of_ble_eq_true rfl) (Nat.le_of_ble_eq_true rfl) dX11_room_5 eo6 (k_X3_lacksRoom e4) rfl ?_
  show AW G lo 0 0 8 [(0, .ref (lo + x0)), (1, .int x1), (2, .int x2)] [.int r5] h3
  refine a_if_eq (tgt := 14) C dX11_room_8 (by decide) (fun c12 => ?_) (fun c12 => ?_)
  · have e := ip c12 e
    refine a_iload_n C dX11_room_14 rfl 2 rfl ?_
    have hxx13 : x2 = x2 := rfl
    by_cases c14 : x2 = (0 : Int32)
    · have e := ip c14 e
      refine a_lookup (off := 25) (tgt := 40) C dX11_room_15 (by decide) (by rw [c14]; first | done | rfl) (by decide) ?_
      refine a_aload_n C dX11_room_40 rfl 0 rfl ?_
      obtain ⟨a16, e15, e⟩ := bA_some e
      refine a_getN C cb10 3 (by decide) fl_X11_33 rfl dX11_room_41 e15 ?_
      obtain ⟨a18, e17, e⟩ := bA_some e
      refine a_getN C cb2 0 (by decide) fl_X11_195 rfl dX11_room_44 e17 ?_
      refine a_iload_n C dX11_room_47 rfl 1 rfl ?_
      obtain ⟨v19, e20, e⟩ := bA_some e
      refine a_iald C dX11_room_48 e20 ?_
      obtain ⟨rfl, rfl⟩ := sp2 e
      exact a_iret C q (Nat.le_of_ble_eq_true rfl) (Nat.le_of_ble_eq_true rfl) dX11_room_49
    have e := iN c14 e
    by_cases c21 : x2 = (1 : Int32)
    · have e := ip c21 e
      refine a_lookup (off := 35) (tgt := 50) C dX11_room_15 (by decide) (by rw [c21]; first | done | rfl) (by decide) ?_
      refine a_aload_n C dX11_room_50 rfl 0 rfl ?_
      obtain ⟨a23, e22, e⟩ := bA_some e
      refine a_getN C cb10 3 (by decide) fl_X11_33 rfl dX11_room_51 e22 ?_
      refine a_iload_n C dX11_room_54 rfl 1 rfl ?_
      obtain ⟨u30, ec29, e⟩ := bA_some e
      obtain ⟨fs28, eo27⟩ := isC_some ec29
      obtain ⟨r26, h24, e25, e⟩ := b2_some e
      refine a_callV (as := [.int x1]) (rest := []) C m_X3_doorsOf im_X3_doorsOf cb2 se_X3_X3_doorsOf_X3_doorsOf ml_X11_234 rfl (Nat.le_of_ble_eq_true rfl) (Nat.le_of_ble_eq_true rfl) (Nat.le_of_ble_eq_true rfl) (Nat.le_of_ble_eq_true rfl) (Nat.le_of_ble_eq_true rfl) dX11_room_55 eo27 (k_X3_doorsOf e25) rfl ?_
      show AW G lo 0 0 58 [(0, .ref (lo + x0)), (1, .int x1), (2, .int x2)] [.int r26] h24
      obtain ⟨rfl, rfl⟩ := sp2 e
      exact a_iret C q (Nat.le_of_ble_eq_true rfl) (Nat.le_of_ble_eq_true rfl) dX11_room_58
    have e := iN c21 e
    refine a_lookup (off := 44) (tgt := 59) C dX11_room_15 (by decide) (by simp only [Op.lookupswitch.offset]; rw [if_neg (fun q => lv_neT (a := 0) c14 (by decide) q.symm)]; rw [if_neg (fun q => lv_neT (a := 1) c21 (by decide) q.symm)]) (by decide) ?_
    refine a_ldc C ko_X11_75 dX11_room_59 ?_
    obtain ⟨rfl, rfl⟩ := sp2 e
    exact a_iret C q (Nat.le_of_ble_eq_true rfl) (Nat.le_of_ble_eq_true rfl) dX11_room_61
  · have e := iN c12 e
    refine a_ldc C ko_X11_75 dX11_room_11 ?_
    obtain ⟨rfl, rfl⟩ := sp2 e
    exact a_iret C q (Nat.le_of_ble_eq_true rfl) (Nat.le_of_ble_eq_true rfl) dX11_room_13

set_option maxRecDepth 100000 in
def f_X11_would (h : Hp) (x0 : Nat) (x1 : Int32) (x2 : Int32) (x3 : Int32) (x4 : Int32) : Option (Int32 × Hp) := bA (gN h x0 10 3) fun a2 => bA (isC h a2 2) fun u9 => b2 (f_X3_stands h a2 ) fun r5 h3 => (if r5 = 0 then some ((-1000002 : Int32), h3) else b2 (f_X11_isBadRoute h3 x1 x3) fun r15 h13 => (if r15 = 0 then (if x4 < 0 then some ((-1000001 : Int32), h13) else (if x4 ≤ (4 : Int32) then bA (isC h13 x0 10) fun u30 => b2 (f_X11_lackOfRoute h13 x0 x1 x2 x3) fun r26 h24 => (if r26 = 0 then bA (gN h24 x0 10 0) fun a35 => bA (aldn h24 a35 2 x1) fun a37 => bA (gN h24 a37 7 0) fun a39 => bA (isC h24 x0 10) fun u46 => bA (f_X11_foretell h24 x0 a39 x2 x3) fun h40 => (if x4 = (0 : Int32) then bA (gN h40 x0 10 5) fun a52 => bA (isC h40 a52 9) fun u59 => b2 (f_X10_outcome h40 a52 ) fun r55 h53 => bA (isC h53 x0 10) fun u68 => b2 (f_X11_well h53 x0 r55) fun r64 h62 => some (r64, h62) else (if x4 = (1 : Int32) then bA (gN h40 x0 10 5) fun a73 => bA (gI h40 a73 9 6) fun g75 => bA (isC h40 x0 10) fun u82 => b2 (f_X11_well h40 x0 g75) fun r78 h76 => some (r78, h76) else (if x4 = (2 : Int32) then bA (gN h40 x0 10 5) fun a87 => bA (gI h40 a87 9 7) fun g89 => bA (isC h40 x0 10) fun u96 => b2 (f_X11_well h40 x0 g89) fun r92 h90 => some (r92, h90) else (if x4 = (3 : Int32) then bA (gN h40 x0 10 5) fun a101 => bA (gI h40 a101 9 3) fun g103 => bA (isC h40 x0 10) fun u110 => b2 (f_X11_well h40 x0 g103) fun r106 h104 => some (r106, h104) else bA (gN h40 x0 10 5) fun a114 => bA (gI h40 a114 9 5) fun g116 => bA (isC h40 x0 10) fun u123 => b2 (f_X11_well h40 x0 g116) fun r119 h117 => some (r119, h117))))) else bA (isC h24 x0 10) fun u132 => b2 (f_X11_found h24 x0 r26) fun r128 h126 => some (r128, h126)) else some ((-1000001 : Int32), h13))) else some ((-1000001 : Int32), h13)))

theorem m_X11_would : MI yX11_would cX11_would 6 (some .int) 4 := ⟨co_X11_would, ini_X11, by decide, by decide +kernel⟩
set_option maxRecDepth 100000 in
set_option maxHeartbeats 4000000 in
theorem k_X11_would {lo : Nat} {h : Hp} {x0 : Nat} {x1 : Int32} {x2 : Int32} {x3 : Int32} {x4 : Int32} {r : Int32} {h' : Hp} (e : f_X11_would h x0 x1 x2 x3 x4 = some (r, h')) : ∀ l d, AC l d lo yX11_would cX11_would 6 (some .int) ({ frames := 5, cells := 0, slots := 0, locals := 125 } : Room) [.ref (lo + x0), .int x1, .int x2, .int x3, .int x4] h (some (.int r)) h' := by
  intro l d
  refine AC_of (by decide) (Nat.le_of_ble_eq_true rfl) ?_
  intro G C _ _ q
  unfold f_X11_would at e
  show AW G lo 0 0 0 [(0, .ref (lo + x0)), (1, .int x1), (2, .int x2), (3, .int x3), (4, .int x4)] [] h
  refine a_aload_n C dX11_would_0 rfl 0 rfl ?_
  obtain ⟨a2, e1, e⟩ := bA_some e
  refine a_getN C cb10 3 (by decide) fl_X11_33 rfl dX11_would_1 e1 ?_
  obtain ⟨u9, ec8, e⟩ := bA_some e
  obtain ⟨fs7, eo6⟩ := isC_some ec8
  obtain ⟨r5, h3, e4, e⟩ := b2_some e
  refine a_callV (as := []) (rest := []) C m_X3_stands im_X3_stands cb2 se_X3_X3_stands_X3_stands ml_X11_161 rfl (Nat.le_of_ble_eq_true rfl) (Nat.le_of_ble_eq_true rfl) (Nat.le_of_ble_eq_true rfl) (Nat.le_of_ble_eq_true rfl) (Nat.le_of_ble_eq_true rfl) dX11_would_4 eo6 (k_X3_stands e4) rfl ?_
  show AW G lo 0 0 7 [(0, .ref (lo + x0)), (1, .int x1), (2, .int x2), (3, .int x3), (4, .int x4)] [.int r5] h3
  refine a_if_ne (tgt := 13) C dX11_would_7 (by decide) (fun c12 => ?_) (fun c12 => ?_)
  · have e := iN c12 e
    refine a_iload_n C dX11_would_13 rfl 1 rfl ?_
    refine a_iload_n C dX11_would_14 rfl 3 rfl ?_
    obtain ⟨r15, h13, e14, e⟩ := b2_some e
    refine a_callS (as := [.int x1, .int x3]) (rest := []) C m_X11_isBadRoute sm_X11_isBadRoute ml_X11_164 rfl (Nat.le_of_ble_eq_true rfl) (Nat.le_of_ble_eq_true rfl) (Nat.le_of_ble_eq_true rfl) (Nat.le_of_ble_eq_true rfl) (Nat.le_of_ble_eq_true rfl) dX11_would_15 (k_X11_isBadRoute e14) rfl ?_
    show AW G lo 0 0 18 [(0, .ref (lo + x0)), (1, .int x1), (2, .int x2), (3, .int x3), (4, .int x4)] [.int r15] h13
    refine a_if_ne (tgt := 32) C dX11_would_18 (by decide) (fun c21 => ?_) (fun c21 => ?_)
    · have e := iN c21 e
      refine a_ldc C ko_X11_75 dX11_would_32 ?_
      obtain ⟨rfl, rfl⟩ := sp2 e
      exact a_iret C q (Nat.le_of_ble_eq_true rfl) (Nat.le_of_ble_eq_true rfl) dX11_would_34
    · have e := ip c21 e
      refine a_iload C dX11_would_21 4 rfl ?_
      refine a_if_lt (tgt := 32) C dX11_would_23 (by decide) (fun c22 => ?_) (fun c22 => ?_)
      · have e := ip c22 e
        refine a_ldc C ko_X11_75 dX11_would_32 ?_
        obtain ⟨rfl, rfl⟩ := sp2 e
        exact a_iret C q (Nat.le_of_ble_eq_true rfl) (Nat.le_of_ble_eq_true rfl) dX11_would_34
      · have e := iN c22 e
        refine a_iload C dX11_would_26 4 rfl ?_
        refine a_iconst (v := (4 : Int32)) C dX11_would_28 (by decide) ?_
        refine a_icmp_le (tgt := 35) C dX11_would_29 (by decide) (fun c23 => ?_) (fun c23 => ?_)
        · have e := ip c23 e
          refine a_aload_n C dX11_would_35 rfl 0 rfl ?_
          refine a_iload_n C dX11_would_36 rfl 1 rfl ?_
          refine a_iload_n C dX11_would_37 rfl 2 rfl ?_
          refine a_iload_n C dX11_would_38 rfl 3 rfl ?_
          obtain ⟨u30, ec29, e⟩ := bA_some e
          obtain ⟨fs28, eo27⟩ := isC_some ec29
          obtain ⟨r26, h24, e25, e⟩ := b2_some e
          refine a_callV (as := [.int x1, .int x2, .int x3]) (rest := []) C m_X11_lackOfRoute im_X11_lackOfRoute cb10 se_X11_X11_lackOfRoute_X11_lackOfRoute ml_X11_167 rfl (Nat.le_of_ble_eq_true rfl) (Nat.le_of_ble_eq_true rfl) (Nat.le_of_ble_eq_true rfl) (Nat.le_of_ble_eq_true rfl) (Nat.le_of_ble_eq_true rfl) dX11_would_39 eo27 (k_X11_lackOfRoute e25) rfl ?_
          show AW G lo 0 0 42 [(0, .ref (lo + x0)), (1, .int x1), (2, .int x2), (3, .int x3), (4, .int x4)] [.int r26] h24
          refine a_istore (lv2 := [(5, .int r26), (0, .ref (lo + x0)), (1, .int x1), (2, .int x2), (3, .int x3), (4, .int x4)]) C dX11_would_42 (by decide) rfl ?_
          refine a_iload C dX11_would_44 0 rfl ?_
          refine a_if_eq (tgt := 56) C dX11_would_46 (by decide) (fun c33 => ?_) (fun c33 => ?_)
          · have e := ip c33 e
            refine a_aload_n C dX11_would_56 rfl 1 rfl ?_
            refine a_aload_n C dX11_would_57 rfl 1 rfl ?_
            obtain ⟨a35, e34, e⟩ := bA_some e
            refine a_getN C cb10 0 (by decide) fl_X11_11 rfl dX11_would_58 e34 ?_
            refine a_iload_n C dX11_would_61 rfl 2 rfl ?_
            obtain ⟨a37, e36, e⟩ := bA_some e
            refine a_aldn C (by decide) dX11_would_62 e36 ?_
            obtain ⟨a39, e38, e⟩ := bA_some e
            refine a_getN C cb7 0 (by decide) fl_X11_103 rfl dX11_would_63 e38 ?_
            refine a_iload_n C dX11_would_66 rfl 3 rfl ?_
            refine a_iload_n C dX11_would_67 rfl 4 rfl ?_
            obtain ⟨u46, ec45, e⟩ := bA_some e
            obtain ⟨fs44, eo43⟩ := isC_some ec45
            obtain ⟨h40, e41, e⟩ := bA_some e
            refine a_callV (as := [.ref (lo + a39), .int x2, .int x3]) (rest := []) C m_X11_foretell im_X11_foretell cb10 se_X11_X11_foretell_X11_foretell ml_X11_237 rfl (Nat.le_of_ble_eq_true rfl) (Nat.le_of_ble_eq_true rfl) (Nat.le_of_ble_eq_true rfl) (Nat.le_of_ble_eq_true rfl) (Nat.le_of_ble_eq_true rfl) dX11_would_68 eo43 (k_X11_foretell e41) rfl ?_
            show AW G lo 0 0 71 [(5, .int r26), (0, .ref (lo + x0)), (1, .int x1), (2, .int x2), (3, .int x3), (4, .int x4)] [] h40
            refine a_iload C dX11_would_71 5 rfl ?_
            have hxx49 : x4 = x4 := rfl
            by_cases c50 : x4 = (0 : Int32)
            · have e := ip c50 e
              refine a_tableIn (tgt := 104) C dX11_would_73 (by rw [c50]; decide) (by rw [c50]; decide) (by rw [c50]; first | done | rfl) (by decide) ?_
              refine a_aload_n C dX11_would_104 rfl 1 rfl ?_
              refine a_aload_n C dX11_would_105 rfl 1 rfl ?_
              obtain ⟨a52, e51, e⟩ := bA_some e
              refine a_getN C cb10 5 (by decide) fl_X11_39 rfl dX11_would_106 e51 ?_
              obtain ⟨u59, ec58, e⟩ := bA_some e
              obtain ⟨fs57, eo56⟩ := isC_some ec58
              obtain ⟨r55, h53, e54, e⟩ := b2_some e
              refine a_callV (as := []) (rest := [.ref (lo + x0)]) C m_X10_outcome im_X10_outcome cb9 se_X10_X10_outcome_X10_outcome ml_X11_240 rfl (Nat.le_of_ble_eq_true rfl) (Nat.le_of_ble_eq_true rfl) (Nat.le_of_ble_eq_true rfl) (Nat.le_of_ble_eq_true rfl) (Nat.le_of_ble_eq_true rfl) dX11_would_109 eo56 (k_X10_outcome e54) rfl ?_
              show AW G lo 0 0 112 [(5, .int r26), (0, .ref (lo + x0)), (1, .int x1), (2, .int x2), (3, .int x3), (4, .int x4)] [.int r55, .ref (lo + x0)] h53
              obtain ⟨u68, ec67, e⟩ := bA_some e
              obtain ⟨fs66, eo65⟩ := isC_some ec67
              obtain ⟨r64, h62, e63, e⟩ := b2_some e
              refine a_callV (as := [.int r55]) (rest := []) C m_X11_well im_X11_well cb10 se_X11_X11_well_X11_well ml_X11_84 rfl (Nat.le_of_ble_eq_true rfl) (Nat.le_of_ble_eq_true rfl) (Nat.le_of_ble_eq_true rfl) (Nat.le_of_ble_eq_true rfl) (Nat.le_of_ble_eq_true rfl) dX11_would_112 eo65 (k_X11_well e63) rfl ?_
              show AW G lo 0 0 115 [(5, .int r26), (0, .ref (lo + x0)), (1, .int x1), (2, .int x2), (3, .int x3), (4, .int x4)] [.int r64] h62
              obtain ⟨rfl, rfl⟩ := sp2 e
              exact a_iret C q (Nat.le_of_ble_eq_true rfl) (Nat.le_of_ble_eq_true rfl) dX11_would_115
            have e := iN c50 e
            by_cases c71 : x4 = (1 : Int32)
            · have e := ip c71 e
              refine a_tableIn (tgt := 116) C dX11_would_73 (by rw [c71]; decide) (by rw [c71]; decide) (by rw [c71]; first | done | rfl) (by decide) ?_
              refine a_aload_n C dX11_would_116 rfl 1 rfl ?_
              refine a_aload_n C dX11_would_117 rfl 1 rfl ?_
              obtain ⟨a73, e72, e⟩ := bA_some e
              refine a_getN C cb10 5 (by decide) fl_X11_39 rfl dX11_would_118 e72 ?_
              obtain ⟨g75, e74, e⟩ := bA_some e
              refine a_getI C cb9 6 (by decide) fl_X11_243 rfl dX11_would_121 e74 ?_
              obtain ⟨u82, ec81, e⟩ := bA_some e
              obtain ⟨fs80, eo79⟩ := isC_some ec81
              obtain ⟨r78, h76, e77, e⟩ := b2_some e
              refine a_callV (as := [.int g75]) (rest := []) C m_X11_well im_X11_well cb10 se_X11_X11_well_X11_well ml_X11_84 rfl (Nat.le_of_ble_eq_true rfl) (Nat.le_of_ble_eq_true rfl) (Nat.le_of_ble_eq_true rfl) (Nat.le_of_ble_eq_true rfl) (Nat.le_of_ble_eq_true rfl) dX11_would_124 eo79 (k_X11_well e77) rfl ?_
              show AW G lo 0 0 127 [(5, .int r26), (0, .ref (lo + x0)), (1, .int x1), (2, .int x2), (3, .int x3), (4, .int x4)] [.int r78] h76
              obtain ⟨rfl, rfl⟩ := sp2 e
              exact a_iret C q (Nat.le_of_ble_eq_true rfl) (Nat.le_of_ble_eq_true rfl) dX11_would_127
            have e := iN c71 e
            by_cases c85 : x4 = (2 : Int32)
            · have e := ip c85 e
              refine a_tableIn (tgt := 128) C dX11_would_73 (by rw [c85]; decide) (by rw [c85]; decide) (by rw [c85]; first | done | rfl) (by decide) ?_
              refine a_aload_n C dX11_would_128 rfl 1 rfl ?_
              refine a_aload_n C dX11_would_129 rfl 1 rfl ?_
              obtain ⟨a87, e86, e⟩ := bA_some e
              refine a_getN C cb10 5 (by decide) fl_X11_39 rfl dX11_would_130 e86 ?_
              obtain ⟨g89, e88, e⟩ := bA_some e
              refine a_getI C cb9 7 (by decide) fl_X11_246 rfl dX11_would_133 e88 ?_
              obtain ⟨u96, ec95, e⟩ := bA_some e
              obtain ⟨fs94, eo93⟩ := isC_some ec95
              obtain ⟨r92, h90, e91, e⟩ := b2_some e
              refine a_callV (as := [.int g89]) (rest := []) C m_X11_well im_X11_well cb10 se_X11_X11_well_X11_well ml_X11_84 rfl (Nat.le_of_ble_eq_true rfl) (Nat.le_of_ble_eq_true rfl) (Nat.le_of_ble_eq_true rfl) (Nat.le_of_ble_eq_true rfl) (Nat.le_of_ble_eq_true rfl) dX11_would_136 eo93 (k_X11_well e91) rfl ?_
              show AW G lo 0 0 139 [(5, .int r26), (0, .ref (lo + x0)), (1, .int x1), (2, .int x2), (3, .int x3), (4, .int x4)] [.int r92] h90
              obtain ⟨rfl, rfl⟩ := sp2 e
              exact a_iret C q (Nat.le_of_ble_eq_true rfl) (Nat.le_of_ble_eq_true rfl) dX11_would_139
            have e := iN c85 e
            by_cases c99 : x4 = (3 : Int32)
            · have e := ip c99 e
              refine a_tableIn (tgt := 140) C dX11_would_73 (by rw [c99]; decide) (by rw [c99]; decide) (by rw [c99]; first | done | rfl) (by decide) ?_
              refine a_aload_n C dX11_would_140 rfl 1 rfl ?_
              refine a_aload_n C dX11_would_141 rfl 1 rfl ?_
              obtain ⟨a101, e100, e⟩ := bA_some e
              refine a_getN C cb10 5 (by decide) fl_X11_39 rfl dX11_would_142 e100 ?_
              obtain ⟨g103, e102, e⟩ := bA_some e
              refine a_getI C cb9 3 (by decide) fl_X11_249 rfl dX11_would_145 e102 ?_
              obtain ⟨u110, ec109, e⟩ := bA_some e
              obtain ⟨fs108, eo107⟩ := isC_some ec109
              obtain ⟨r106, h104, e105, e⟩ := b2_some e
              refine a_callV (as := [.int g103]) (rest := []) C m_X11_well im_X11_well cb10 se_X11_X11_well_X11_well ml_X11_84 rfl (Nat.le_of_ble_eq_true rfl) (Nat.le_of_ble_eq_true rfl) (Nat.le_of_ble_eq_true rfl) (Nat.le_of_ble_eq_true rfl) (Nat.le_of_ble_eq_true rfl) dX11_would_148 eo107 (k_X11_well e105) rfl ?_
              show AW G lo 0 0 151 [(5, .int r26), (0, .ref (lo + x0)), (1, .int x1), (2, .int x2), (3, .int x3), (4, .int x4)] [.int r106] h104
              obtain ⟨rfl, rfl⟩ := sp2 e
              exact a_iret C q (Nat.le_of_ble_eq_true rfl) (Nat.le_of_ble_eq_true rfl) dX11_would_151
            have e := iN c99 e
            refine a_tableOut (tgt := 152) C dX11_would_73 (Classical.byContradiction fun hz => ?_) (by decide) ?_
            · have hz2 : x4.toInt = 0 ∨ x4.toInt = 1 ∨ x4.toInt = 2 ∨ x4.toInt = 3 := by omega
              rcases hz2 with hz3 | hz3 | hz3 | hz3
              · exact c50 (Int32.toInt_inj.mp (hz3.trans (by decide)))
              · exact c71 (Int32.toInt_inj.mp (hz3.trans (by decide)))
              · exact c85 (Int32.toInt_inj.mp (hz3.trans (by decide)))
              · exact c99 (Int32.toInt_inj.mp (hz3.trans (by decide)))
            · refine a_aload_n C dX11_would_152 rfl 1 rfl ?_
              refine a_aload_n C dX11_would_153 rfl 1 rfl ?_
              obtain ⟨a114, e113, e⟩ := bA_some e
              refine a_getN C cb10 5 (by decide) fl_X11_39 rfl dX11_would_154 e113 ?_
              obtain ⟨g116, e115, e⟩ := bA_some e
              refine a_getI C cb9 5 (by decide) fl_X11_252 rfl dX11_would_157 e115 ?_
              obtain ⟨u123, ec122, e⟩ := bA_some e
              obtain ⟨fs121, eo120⟩ := isC_some ec122
              obtain ⟨r119, h117, e118, e⟩ := b2_some e
              refine a_callV (as := [.int g116]) (rest := []) C m_X11_well im_X11_well cb10 se_X11_X11_well_X11_well ml_X11_84 rfl (Nat.le_of_ble_eq_true rfl) (Nat.le_of_ble_eq_true rfl) (Nat.le_of_ble_eq_true rfl) (Nat.le_of_ble_eq_true rfl) (Nat.le_of_ble_eq_true rfl) dX11_would_160 eo120 (k_X11_well e118) rfl ?_
              show AW G lo 0 0 163 [(5, .int r26), (0, .ref (lo + x0)), (1, .int x1), (2, .int x2), (3, .int x3), (4, .int x4)] [.int r119] h117
              obtain ⟨rfl, rfl⟩ := sp2 e
              exact a_iret C q (Nat.le_of_ble_eq_true rfl) (Nat.le_of_ble_eq_true rfl) dX11_would_163
          · have e := iN c33 e
            refine a_aload_n C dX11_would_49 rfl 1 rfl ?_
            refine a_iload C dX11_would_50 0 rfl ?_
            obtain ⟨u132, ec131, e⟩ := bA_some e
            obtain ⟨fs130, eo129⟩ := isC_some ec131
            obtain ⟨r128, h126, e127, e⟩ := b2_some e
            refine a_callV (as := [.int r26]) (rest := []) C m_X11_found im_X11_found cb10 se_X11_X11_found_X11_found ml_X11_76 rfl (Nat.le_of_ble_eq_true rfl) (Nat.le_of_ble_eq_true rfl) (Nat.le_of_ble_eq_true rfl) (Nat.le_of_ble_eq_true rfl) (Nat.le_of_ble_eq_true rfl) dX11_would_52 eo129 (k_X11_found e127) rfl ?_
            show AW G lo 0 0 55 [(5, .int r26), (0, .ref (lo + x0)), (1, .int x1), (2, .int x2), (3, .int x3), (4, .int x4)] [.int r128] h126
            obtain ⟨rfl, rfl⟩ := sp2 e
            exact a_iret C q (Nat.le_of_ble_eq_true rfl) (Nat.le_of_ble_eq_true rfl) dX11_would_55
        · have e := iN c23 e
          refine a_ldc C ko_X11_75 dX11_would_32 ?_
          obtain ⟨rfl, rfl⟩ := sp2 e
          exact a_iret C q (Nat.le_of_ble_eq_true rfl) (Nat.le_of_ble_eq_true rfl) dX11_would_34
  · have e := ip c12 e
    refine a_ldc C ko_X11_157 dX11_would_10 ?_
    obtain ⟨rfl, rfl⟩ := sp2 e
    exact a_iret C q (Nat.le_of_ble_eq_true rfl) (Nat.le_of_ble_eq_true rfl) dX11_would_12

set_option maxRecDepth 100000 in
def f_X11_way_L21 (k : Int32 → Hp → Option (Int32 × Hp)) (x0 : Nat) (x1 : Int32) (x2 : Int32) : Nat → Hp → Int32 → Option (Int32 × Hp)
  | 0, _, _ => none
  | fuel + 1, h, x3 => (if (3 : Int32) < x3 then k x3 h else bA (isC h x0 10) fun u21 => b2 (f_X11_findWay h x0 (0 : Int32) x1 (0 : Int32) x3) fun r17 h15 => (if r17 = 0 then f_X11_way_L21 k x0 x1 x2 fuel h15 (x3 + (1 : Int32)) else (if x2 = (-1 : Int32) then some (x3, h15) else bA (if x3 ≤ x2 then some (-1000000 : Int32) else bA (gN h15 x0 10 11) fun a31 => bA (aln h15 a31 0) fun n32 => (if n32 ≤ x2 then some (-1000000 : Int32) else bA (gN h15 x0 10 11) fun a36 => bA (ald h15 a36 0 x2) fun v37 => some v37)) fun j27 => some (j27, h15))))

set_option maxRecDepth 100000 in
def f_X11_way (h : Hp) (x0 : Nat) (x1 : Int32) (x2 : Int32) : Option (Int32 × Hp) := bA (gN h x0 10 3) fun a2 => bA (isC h a2 2) fun u9 => b2 (f_X3_lacksRoom h a2 x1) fun r5 h3 => (if r5 = 0 then (if (-1 : Int32) ≤ x2 then f_X11_way_L21 (fun y40 h39 => some ((-1000000 : Int32), h39)) x0 x1 x2 2000 h3 (0 : Int32) else some ((-1000001 : Int32), h3)) else some ((-1000001 : Int32), h3))

theorem m_X11_way : MI yX11_way cX11_way 4 (some .int) 2 := ⟨co_X11_way, ini_X11, by decide, by decide +kernel⟩
set_option maxRecDepth 100000 in
set_option maxHeartbeats 4000000 in
theorem w_X11_way_L21 {G : Gm} {lo : Nat} {ce sl : Nat} (C : CX G lo cX11_way RX11 (some .int) ({ frames := 11, cells := 0, slots := 0, locals := 281 } : Room) 4) {r : Int32} {h' : Hp} {k : Int32 → Hp → Option (Int32 × Hp)} {x0 : Nat} {x1 : Int32} {x2 : Int32} (q : RQ G lo (some (.int r)) h' 0 0) (hk : ∀ (h : Hp) (x3 : Int32), k x3 h = some (r, h') → AW G lo ce sl 77 [(0, .ref (lo + x0)), (1, .int x1), (2, .int x2), (3, .int x3)] [] h) (hce : ce ≤ 0) (hsl : sl ≤ 0) : ∀ (fuel : Nat) (h : Hp) (x3 : Int32), f_X11_way_L21 k x0 x1 x2 fuel h x3 = some (r, h') → AW G lo ce sl 21 [(0, .ref (lo + x0)), (1, .int x1), (2, .int x2), (3, .int x3)] [] h := by
  intro fuel
  induction fuel with
  | zero =>
    intro h x3 e
    cases (show (none : Option (Int32 × Hp)) = some (r, h') from e)
  | succ fuel ih =>
    intro h x3 e
    rw [f_X11_way_L21] at e
    refine a_iload_n C dX11_way_21 rfl 3 rfl ?_
    refine a_iconst (v := (3 : Int32)) C dX11_way_22 (by decide) ?_
    refine a_icmp_gt (tgt := 77) C dX11_way_23 (by decide) (fun c14 => ?_) (fun c14 => ?_)
    · have e := ip c14 e
      exact a_sub [0, 1, 2, 3] rfl (hk _ _ e)
    · have e := iN c14 e
      refine a_aload_n C dX11_way_26 rfl 0 rfl ?_
      refine a_iconst (v := (0 : Int32)) C dX11_way_27 (by decide) ?_
      refine a_iload_n C dX11_way_28 rfl 1 rfl ?_
      refine a_iconst (v := (0 : Int32)) C dX11_way_29 (by decide) ?_
      refine a_iload_n C dX11_way_30 rfl 3 rfl ?_
      obtain ⟨u21, ec20, e⟩ := bA_some e
      obtain ⟨fs19, eo18⟩ := isC_some ec20
      obtain ⟨r17, h15, e16, e⟩ := b2_some e
      refine a_callV (as := [.int (0 : Int32), .int x1, .int (0 : Int32), .int x3]) (rest := []) C m_X11_findWay im_X11_findWay cb10 se_X11_X11_findWay_X11_findWay ml_X11_255 rfl (Nat.le_of_ble_eq_true rfl) (Nat.le_of_ble_eq_true rfl) (by exact hce) (by exact hsl) (Nat.le_of_ble_eq_true rfl) dX11_way_31 eo18 (k_X11_findWay e16) rfl ?_
      show AW G lo ce sl 34 [(0, .ref (lo + x0)), (1, .int x1), (2, .int x2), (3, .int x3)] [.int r17] h15
      refine a_if_eq (tgt := 71) C dX11_way_34 (by decide) (fun c24 => ?_) (fun c24 => ?_)
      · have e := ip c24 e
        refine a_iinc (v := x3 + (1 : Int32)) (lv2 := [(3, .int (x3 + (1 : Int32))), (0, .ref (lo + x0)), (1, .int x1), (2, .int x2)]) C dX11_way_71 3 rfl rfl (by decide) rfl ?_
        refine a_goto (tgt := 21) C dX11_way_74 (by decide) ?_
        exact a_sub [1, 2, 3, 0] rfl (ih _ _ e)
      · have e := iN c24 e
        refine a_iload_n C dX11_way_37 rfl 2 rfl ?_
        refine a_iconst (v := (-1 : Int32)) C dX11_way_38 (by decide) ?_
        refine a_icmp_ne (tgt := 44) C dX11_way_39 (by decide) (fun c25 => ?_) (fun c25 => ?_)
        · have e := iN c25 e
          refine a_iload_n C dX11_way_44 rfl 2 rfl ?_
          refine a_iload_n C dX11_way_45 rfl 3 rfl ?_
          obtain ⟨j27, eb29, e⟩ := bA_some e
          have jj28 : AW G lo ce sl 70 [(0, .ref (lo + x0)), (1, .int x1), (2, .int x2), (3, .int x3)] [.int j27] h15 := by
            obtain ⟨rfl, rfl⟩ := sp2 e
            exact a_iret C q (by exact hce) (by exact hsl) dX11_way_70
          have e := eb29
          refine a_icmp_ge (tgt := 67) C dX11_way_46 (by decide) (fun c26 => ?_) (fun c26 => ?_)
          · have e := ip c26 e
            refine a_ldc_w C ko_X11_259 dX11_way_67 ?_
            obtain rfl := sp1 e
            exact a_widen (Nat.le_refl _) (Nat.le_refl _) (a_sub [0, 1, 2, 3] rfl jj28)
          · have e := iN c26 e
            refine a_iload_n C dX11_way_49 rfl 2 rfl ?_
            refine a_aload_n C dX11_way_50 rfl 0 rfl ?_
            obtain ⟨a31, e30, e⟩ := bA_some e
            refine a_getN C cb10 11 (by decide) fl_X11_65 rfl dX11_way_51 e30 ?_
            obtain ⟨n32, e33, e⟩ := bA_some e
            refine a_aln C dX11_way_54 e33 ?_
            refine a_icmp_ge (tgt := 67) C dX11_way_55 (by decide) (fun c34 => ?_) (fun c34 => ?_)
            · have e := ip c34 e
              refine a_ldc_w C ko_X11_259 dX11_way_67 ?_
              obtain rfl := sp1 e
              exact a_widen (Nat.le_refl _) (Nat.le_refl _) (a_sub [0, 1, 2, 3] rfl jj28)
            · have e := iN c34 e
              refine a_aload_n C dX11_way_58 rfl 0 rfl ?_
              obtain ⟨a36, e35, e⟩ := bA_some e
              refine a_getN C cb10 11 (by decide) fl_X11_65 rfl dX11_way_59 e35 ?_
              refine a_iload_n C dX11_way_62 rfl 2 rfl ?_
              obtain ⟨v37, e38, e⟩ := bA_some e
              refine a_iald C dX11_way_63 e38 ?_
              refine a_goto (tgt := 70) C dX11_way_64 (by decide) ?_
              obtain rfl := sp1 e
              exact a_widen (Nat.le_refl _) (Nat.le_refl _) (a_sub [0, 1, 2, 3] rfl jj28)
        · have e := ip c25 e
          refine a_iload_n C dX11_way_42 rfl 3 rfl ?_
          obtain ⟨rfl, rfl⟩ := sp2 e
          exact a_iret C q (by exact hce) (by exact hsl) dX11_way_43
set_option maxRecDepth 100000 in
set_option maxHeartbeats 4000000 in
theorem k_X11_way {lo : Nat} {h : Hp} {x0 : Nat} {x1 : Int32} {x2 : Int32} {r : Int32} {h' : Hp} (e : f_X11_way h x0 x1 x2 = some (r, h')) : ∀ l d, AC l d lo yX11_way cX11_way 4 (some .int) ({ frames := 11, cells := 0, slots := 0, locals := 281 } : Room) [.ref (lo + x0), .int x1, .int x2] h (some (.int r)) h' := by
  intro l d
  refine AC_of (by decide) (Nat.le_of_ble_eq_true rfl) ?_
  intro G C _ _ q
  unfold f_X11_way at e
  show AW G lo 0 0 0 [(0, .ref (lo + x0)), (1, .int x1), (2, .int x2)] [] h
  refine a_aload_n C dX11_way_0 rfl 0 rfl ?_
  obtain ⟨a2, e1, e⟩ := bA_some e
  refine a_getN C cb10 3 (by decide) fl_X11_33 rfl dX11_way_1 e1 ?_
  refine a_iload_n C dX11_way_4 rfl 1 rfl ?_
  obtain ⟨u9, ec8, e⟩ := bA_some e
  obtain ⟨fs7, eo6⟩ := isC_some ec8
  obtain ⟨r5, h3, e4, e⟩ := b2_some e
  refine a_callV (as := [.int x1]) (rest := []) C m_X3_lacksRoom im_X3_lacksRoom cb2 se_X3_X3_lacksRoom_X3_lacksRoom ml_X11_192 rfl (Nat.le_of_ble_eq_true rfl) (Nat.le_of_ble_eq_true rfl) (Nat.le_of_ble_eq_true rfl) (Nat.le_of_ble_eq_true rfl) (Nat.le_of_ble_eq_true rfl) dX11_way_5 eo6 (k_X3_lacksRoom e4) rfl ?_
  show AW G lo 0 0 8 [(0, .ref (lo + x0)), (1, .int x1), (2, .int x2)] [.int r5] h3
  refine a_if_ne (tgt := 16) C dX11_way_8 (by decide) (fun c12 => ?_) (fun c12 => ?_)
  · have e := iN c12 e
    refine a_ldc C ko_X11_75 dX11_way_16 ?_
    obtain ⟨rfl, rfl⟩ := sp2 e
    exact a_iret C q (Nat.le_of_ble_eq_true rfl) (Nat.le_of_ble_eq_true rfl) dX11_way_18
  · have e := ip c12 e
    refine a_iload_n C dX11_way_11 rfl 2 rfl ?_
    refine a_iconst (v := (-1 : Int32)) C dX11_way_12 (by decide) ?_
    refine a_icmp_ge (tgt := 19) C dX11_way_13 (by decide) (fun c13 => ?_) (fun c13 => ?_)
    · have e := ip c13 e
      refine a_iconst (v := (0 : Int32)) C dX11_way_19 (by decide) ?_
      refine a_istore_n (lv2 := [(3, .int (0 : Int32)), (0, .ref (lo + x0)), (1, .int x1), (2, .int x2)]) C dX11_way_20 rfl (by decide) rfl ?_
      refine a_sub [1, 2, 3, 0] rfl (w_X11_way_L21 C q ?_ (Nat.le_of_ble_eq_true rfl) (Nat.le_of_ble_eq_true rfl) 2000 _ _ e)
      intro h39 y40 e
      show AW G lo 0 0 77 [(0, .ref (lo + x0)), (1, .int x1), (2, .int x2), (3, .int y40)] [] h39
      refine a_ldc_w C ko_X11_259 dX11_way_77 ?_
      obtain ⟨rfl, rfl⟩ := sp2 e
      exact a_iret C q (Nat.le_of_ble_eq_true rfl) (Nat.le_of_ble_eq_true rfl) dX11_way_80
    · have e := iN c13 e
      refine a_ldc C ko_X11_75 dX11_way_16 ?_
      obtain ⟨rfl, rfl⟩ := sp2 e
      exact a_iret C q (Nat.le_of_ble_eq_true rfl) (Nat.le_of_ble_eq_true rfl) dX11_way_18

set_option maxRecDepth 100000 in
def f_X11_needs (h : Hp) (x0 : Nat) (x1 : Int32) (x2 : Int32) (x3 : Int32) (x4 : Int32) : Option (Int32 × Hp) := bA (gN h x0 10 3) fun a2 => bA (isC h a2 2) fun u9 => b2 (f_X3_stands h a2 ) fun r5 h3 => (if r5 = 0 then some ((-1000002 : Int32), h3) else b2 (f_X11_isBadRoute h3 x1 x3) fun r15 h13 => (if r15 = 0 then (if x4 < 0 then some ((-1000001 : Int32), h13) else (if x4 ≤ (2 : Int32) then bA (isC h13 x0 10) fun u30 => b2 (f_X11_lackOfRoute h13 x0 x1 x2 x3) fun r26 h24 => (if r26 = 0 then bA (gN h24 x0 10 6) fun a35 => bA (gN h24 x0 10 3) fun a37 => bA (isC h24 a35 2) fun u44 => bA (f_X3_become h24 a35 a37) fun h38 => bA (if x4 = (2 : Int32) then bA (gN h38 x0 10 6) fun a56 => bA (pV h38 a56 2 6 (.inl (60 : Int32))) fun h58 => some h58 else bA (gN h38 x0 10 6) fun a52 => bA (pV h38 a52 2 7 (.inl (63 : Int32))) fun h54 => some h54) fun h48 => bA (gN h48 x0 10 5) fun a60 => bA (gN h48 x0 10 0) fun a62 => bA (aldn h48 a62 2 x1) fun a64 => bA (gN h48 a64 7 0) fun a66 => bA (isC h48 a60 9) fun u73 => bA (f_X10_go h48 a60 a66 x2 x3) fun h67 => bA (gN h67 x0 10 5) fun a77 => bA (gI h67 a77 9 10) fun g79 => (if g79 = 0 then (if x4 = (2 : Int32) then bA (gN h67 x0 10 5) fun a113 => bA (gI h67 a113 9 6) fun g115 => bA (isC h67 x0 10) fun u122 => b2 (f_X11_well h67 x0 (if (1 : Int32) < g115 then g115 else (1 : Int32))) fun r118 h116 => some (r118, h116) else b2 (if x4 = (1 : Int32) then bA (gN h67 x0 10 5) fun a100 => bA (gI h67 a100 9 8) fun g102 => some (g102, h67) else bA (gN h67 x0 10 5) fun a88 => bA (gI h67 a88 9 8) fun g90 => b2 (f_J6_bitCount_0f7a4 h67 g90) fun r93 h91 => some (r93, h91)) fun j83 h84 => bA (isC h84 x0 10) fun u109 => b2 (f_X11_well h84 x0 j83) fun r105 h103 => some (r105, h103)) else bA (isC h67 x0 10) fun u131 => b2 (f_X11_well h67 x0 (-1000000 : Int32)) fun r127 h125 => some (r127, h125)) else bA (isC h24 x0 10) fun u140 => b2 (f_X11_found h24 x0 r26) fun r136 h134 => some (r136, h134)) else some ((-1000001 : Int32), h13))) else some ((-1000001 : Int32), h13)))

theorem m_X11_needs : MI yX11_needs cX11_needs 6 (some .int) 4 := ⟨co_X11_needs, ini_X11, by decide, by decide +kernel⟩
set_option maxRecDepth 100000 in
set_option maxHeartbeats 4000000 in
theorem k_X11_needs {lo : Nat} {h : Hp} {x0 : Nat} {x1 : Int32} {x2 : Int32} {x3 : Int32} {x4 : Int32} {r : Int32} {h' : Hp} (e : f_X11_needs h x0 x1 x2 x3 x4 = some (r, h')) : ∀ l d, AC l d lo yX11_needs cX11_needs 6 (some .int) ({ frames := 4, cells := 0, slots := 0, locals := 102 } : Room) [.ref (lo + x0), .int x1, .int x2, .int x3, .int x4] h (some (.int r)) h' := by
  intro l d
  refine AC_of (by decide) (Nat.le_of_ble_eq_true rfl) ?_
  intro G C _ _ q
  unfold f_X11_needs at e
  show AW G lo 0 0 0 [(0, .ref (lo + x0)), (1, .int x1), (2, .int x2), (3, .int x3), (4, .int x4)] [] h
  refine a_aload_n C dX11_needs_0 rfl 0 rfl ?_
  obtain ⟨a2, e1, e⟩ := bA_some e
  refine a_getN C cb10 3 (by decide) fl_X11_33 rfl dX11_needs_1 e1 ?_
  obtain ⟨u9, ec8, e⟩ := bA_some e
  obtain ⟨fs7, eo6⟩ := isC_some ec8
  obtain ⟨r5, h3, e4, e⟩ := b2_some e
  refine a_callV (as := []) (rest := []) C m_X3_stands im_X3_stands cb2 se_X3_X3_stands_X3_stands ml_X11_161 rfl (Nat.le_of_ble_eq_true rfl) (Nat.le_of_ble_eq_true rfl) (Nat.le_of_ble_eq_true rfl) (Nat.le_of_ble_eq_true rfl) (Nat.le_of_ble_eq_true rfl) dX11_needs_4 eo6 (k_X3_stands e4) rfl ?_
  show AW G lo 0 0 7 [(0, .ref (lo + x0)), (1, .int x1), (2, .int x2), (3, .int x3), (4, .int x4)] [.int r5] h3
  refine a_if_ne (tgt := 13) C dX11_needs_7 (by decide) (fun c12 => ?_) (fun c12 => ?_)
  · have e := iN c12 e
    refine a_iload_n C dX11_needs_13 rfl 1 rfl ?_
    refine a_iload_n C dX11_needs_14 rfl 3 rfl ?_
    obtain ⟨r15, h13, e14, e⟩ := b2_some e
    refine a_callS (as := [.int x1, .int x3]) (rest := []) C m_X11_isBadRoute sm_X11_isBadRoute ml_X11_164 rfl (Nat.le_of_ble_eq_true rfl) (Nat.le_of_ble_eq_true rfl) (Nat.le_of_ble_eq_true rfl) (Nat.le_of_ble_eq_true rfl) (Nat.le_of_ble_eq_true rfl) dX11_needs_15 (k_X11_isBadRoute e14) rfl ?_
    show AW G lo 0 0 18 [(0, .ref (lo + x0)), (1, .int x1), (2, .int x2), (3, .int x3), (4, .int x4)] [.int r15] h13
    refine a_if_ne (tgt := 32) C dX11_needs_18 (by decide) (fun c21 => ?_) (fun c21 => ?_)
    · have e := iN c21 e
      refine a_ldc C ko_X11_75 dX11_needs_32 ?_
      obtain ⟨rfl, rfl⟩ := sp2 e
      exact a_iret C q (Nat.le_of_ble_eq_true rfl) (Nat.le_of_ble_eq_true rfl) dX11_needs_34
    · have e := ip c21 e
      refine a_iload C dX11_needs_21 4 rfl ?_
      refine a_if_lt (tgt := 32) C dX11_needs_23 (by decide) (fun c22 => ?_) (fun c22 => ?_)
      · have e := ip c22 e
        refine a_ldc C ko_X11_75 dX11_needs_32 ?_
        obtain ⟨rfl, rfl⟩ := sp2 e
        exact a_iret C q (Nat.le_of_ble_eq_true rfl) (Nat.le_of_ble_eq_true rfl) dX11_needs_34
      · have e := iN c22 e
        refine a_iload C dX11_needs_26 4 rfl ?_
        refine a_iconst (v := (2 : Int32)) C dX11_needs_28 (by decide) ?_
        refine a_icmp_le (tgt := 35) C dX11_needs_29 (by decide) (fun c23 => ?_) (fun c23 => ?_)
        · have e := ip c23 e
          refine a_aload_n C dX11_needs_35 rfl 0 rfl ?_
          refine a_iload_n C dX11_needs_36 rfl 1 rfl ?_
          refine a_iload_n C dX11_needs_37 rfl 2 rfl ?_
          refine a_iload_n C dX11_needs_38 rfl 3 rfl ?_
          obtain ⟨u30, ec29, e⟩ := bA_some e
          obtain ⟨fs28, eo27⟩ := isC_some ec29
          obtain ⟨r26, h24, e25, e⟩ := b2_some e
          refine a_callV (as := [.int x1, .int x2, .int x3]) (rest := []) C m_X11_lackOfRoute im_X11_lackOfRoute cb10 se_X11_X11_lackOfRoute_X11_lackOfRoute ml_X11_167 rfl (Nat.le_of_ble_eq_true rfl) (Nat.le_of_ble_eq_true rfl) (Nat.le_of_ble_eq_true rfl) (Nat.le_of_ble_eq_true rfl) (Nat.le_of_ble_eq_true rfl) dX11_needs_39 eo27 (k_X11_lackOfRoute e25) rfl ?_
          show AW G lo 0 0 42 [(0, .ref (lo + x0)), (1, .int x1), (2, .int x2), (3, .int x3), (4, .int x4)] [.int r26] h24
          refine a_istore (lv2 := [(5, .int r26), (0, .ref (lo + x0)), (1, .int x1), (2, .int x2), (3, .int x3), (4, .int x4)]) C dX11_needs_42 (by decide) rfl ?_
          refine a_iload C dX11_needs_44 0 rfl ?_
          refine a_if_eq (tgt := 56) C dX11_needs_46 (by decide) (fun c33 => ?_) (fun c33 => ?_)
          · have e := ip c33 e
            refine a_aload_n C dX11_needs_56 rfl 1 rfl ?_
            obtain ⟨a35, e34, e⟩ := bA_some e
            refine a_getN C cb10 6 (by decide) fl_X11_42 rfl dX11_needs_57 e34 ?_
            refine a_aload_n C dX11_needs_60 rfl 1 rfl ?_
            obtain ⟨a37, e36, e⟩ := bA_some e
            refine a_getN C cb10 3 (by decide) fl_X11_33 rfl dX11_needs_61 e36 ?_
            obtain ⟨u44, ec43, e⟩ := bA_some e
            obtain ⟨fs42, eo41⟩ := isC_some ec43
            obtain ⟨h38, e39, e⟩ := bA_some e
            refine a_callV (as := [.ref (lo + a37)]) (rest := []) C m_X3_become im_X3_become cb2 se_X3_X3_become_X3_become ml_X11_141 rfl (Nat.le_of_ble_eq_true rfl) (Nat.le_of_ble_eq_true rfl) (Nat.le_of_ble_eq_true rfl) (Nat.le_of_ble_eq_true rfl) (Nat.le_of_ble_eq_true rfl) dX11_needs_64 eo41 (k_X3_become e39) rfl ?_
            show AW G lo 0 0 67 [(5, .int r26), (0, .ref (lo + x0)), (1, .int x1), (2, .int x2), (3, .int x3), (4, .int x4)] [] h38
            refine a_iload C dX11_needs_67 5 rfl ?_
            refine a_iconst (v := (2 : Int32)) C dX11_needs_69 (by decide) ?_
            obtain ⟨h48, eb50, e⟩ := bA_some e
            have jj49 : AW G lo 0 0 94 [(0, .ref (lo + x0)), (1, .int x1), (2, .int x2), (3, .int x3), (4, .int x4), (5, .int r26)] [] h48 := by
              refine a_aload_n C dX11_needs_94 rfl 0 rfl ?_
              obtain ⟨a60, e59, e⟩ := bA_some e
              refine a_getN C cb10 5 (by decide) fl_X11_39 rfl dX11_needs_95 e59 ?_
              refine a_aload_n C dX11_needs_98 rfl 0 rfl ?_
              obtain ⟨a62, e61, e⟩ := bA_some e
              refine a_getN C cb10 0 (by decide) fl_X11_11 rfl dX11_needs_99 e61 ?_
              refine a_iload_n C dX11_needs_102 rfl 1 rfl ?_
              obtain ⟨a64, e63, e⟩ := bA_some e
              refine a_aldn C (by decide) dX11_needs_103 e63 ?_
              obtain ⟨a66, e65, e⟩ := bA_some e
              refine a_getN C cb7 0 (by decide) fl_X11_103 rfl dX11_needs_104 e65 ?_
              refine a_iload_n C dX11_needs_107 rfl 2 rfl ?_
              refine a_iload_n C dX11_needs_108 rfl 3 rfl ?_
              obtain ⟨u73, ec72, e⟩ := bA_some e
              obtain ⟨fs71, eo70⟩ := isC_some ec72
              obtain ⟨h67, e68, e⟩ := bA_some e
              refine a_callV (as := [.ref (lo + a66), .int x2, .int x3]) (rest := []) C m_X10_go im_X10_go cb9 se_X10_X10_go_X10_go ml_X11_174 rfl (Nat.le_of_ble_eq_true rfl) (Nat.le_of_ble_eq_true rfl) (Nat.le_of_ble_eq_true rfl) (Nat.le_of_ble_eq_true rfl) (Nat.le_of_ble_eq_true rfl) dX11_needs_109 eo70 (k_X10_go e68) rfl ?_
              show AW G lo 0 0 112 [(0, .ref (lo + x0)), (1, .int x1), (2, .int x2), (3, .int x3), (4, .int x4), (5, .int r26)] [] h67
              refine a_aload_n C dX11_needs_112 rfl 0 rfl ?_
              obtain ⟨a77, e76, e⟩ := bA_some e
              refine a_getN C cb10 5 (by decide) fl_X11_39 rfl dX11_needs_113 e76 ?_
              obtain ⟨g79, e78, e⟩ := bA_some e
              refine a_getI C cb9 10 (by decide) fl_X11_178 rfl dX11_needs_116 e78 ?_
              refine a_if_eq (tgt := 130) C dX11_needs_119 (by decide) (fun c80 => ?_) (fun c80 => ?_)
              · have e := ip c80 e
                refine a_iload C dX11_needs_130 4 rfl ?_
                refine a_iconst (v := (2 : Int32)) C dX11_needs_132 (by decide) ?_
                refine a_icmp_ne (tgt := 152) C dX11_needs_133 (by decide) (fun c81 => ?_) (fun c81 => ?_)
                · have e := iN c81 e
                  refine a_aload_n C dX11_needs_152 rfl 0 rfl ?_
                  refine a_iload C dX11_needs_153 4 rfl ?_
                  refine a_iconst (v := (1 : Int32)) C dX11_needs_155 (by decide) ?_
                  obtain ⟨j83, h84, eb86, e⟩ := b2_some e
                  have jj85 : AW G lo 0 0 179 [(0, .ref (lo + x0)), (1, .int x1), (2, .int x2), (3, .int x3), (4, .int x4), (5, .int r26)] [.int j83, .ref (lo + x0)] h84 := by
                    obtain ⟨u109, ec108, e⟩ := bA_some e
                    obtain ⟨fs107, eo106⟩ := isC_some ec108
                    obtain ⟨r105, h103, e104, e⟩ := b2_some e
                    refine a_callV (as := [.int j83]) (rest := []) C m_X11_well im_X11_well cb10 se_X11_X11_well_X11_well ml_X11_84 rfl (Nat.le_of_ble_eq_true rfl) (Nat.le_of_ble_eq_true rfl) (Nat.le_of_ble_eq_true rfl) (Nat.le_of_ble_eq_true rfl) (Nat.le_of_ble_eq_true rfl) dX11_needs_179 eo106 (k_X11_well e104) rfl ?_
                    show AW G lo 0 0 182 [(0, .ref (lo + x0)), (1, .int x1), (2, .int x2), (3, .int x3), (4, .int x4), (5, .int r26)] [.int r105] h103
                    obtain ⟨rfl, rfl⟩ := sp2 e
                    exact a_iret C q (Nat.le_of_ble_eq_true rfl) (Nat.le_of_ble_eq_true rfl) dX11_needs_182
                  have e := eb86
                  refine a_icmp_ne (tgt := 169) C dX11_needs_156 (by decide) (fun c82 => ?_) (fun c82 => ?_)
                  · have e := iN c82 e
                    refine a_aload_n C dX11_needs_169 rfl 0 rfl ?_
                    obtain ⟨a88, e87, e⟩ := bA_some e
                    refine a_getN C cb10 5 (by decide) fl_X11_39 rfl dX11_needs_170 e87 ?_
                    obtain ⟨g90, e89, e⟩ := bA_some e
                    refine a_getI C cb9 8 (by decide) fl_X11_265 rfl dX11_needs_173 e89 ?_
                    obtain ⟨r93, h91, e92, e⟩ := b2_some e
                    refine a_callS (as := [.int g90]) (rest := [.ref (lo + x0)]) C m_J6_bitCount_0f7a4 sm_J6_bitCount_0f7a4 ml_X11_268 rfl (Nat.le_of_ble_eq_true rfl) (Nat.le_of_ble_eq_true rfl) (Nat.le_of_ble_eq_true rfl) (Nat.le_of_ble_eq_true rfl) (Nat.le_of_ble_eq_true rfl) dX11_needs_176 (k_J6_bitCount_0f7a4 e92) rfl ?_
                    show AW G lo 0 0 179 [(0, .ref (lo + x0)), (1, .int x1), (2, .int x2), (3, .int x3), (4, .int x4), (5, .int r26)] [.int r93, .ref (lo + x0)] h91
                    obtain ⟨rfl, rfl⟩ := sp2 e
                    exact a_widen (Nat.le_of_ble_eq_true rfl) (Nat.le_of_ble_eq_true rfl) (a_sub [0, 1, 2, 3, 4, 5] rfl jj85)
                  · have e := ip c82 e
                    refine a_aload_n C dX11_needs_159 rfl 0 rfl ?_
                    obtain ⟨a100, e99, e⟩ := bA_some e
                    refine a_getN C cb10 5 (by decide) fl_X11_39 rfl dX11_needs_160 e99 ?_
                    obtain ⟨g102, e101, e⟩ := bA_some e
                    refine a_getI C cb9 8 (by decide) fl_X11_265 rfl dX11_needs_163 e101 ?_
                    refine a_goto (tgt := 179) C dX11_needs_166 (by decide) ?_
                    obtain ⟨rfl, rfl⟩ := sp2 e
                    exact a_widen (Nat.le_of_ble_eq_true rfl) (Nat.le_of_ble_eq_true rfl) (a_sub [0, 1, 2, 3, 4, 5] rfl jj85)
                · have e := ip c81 e
                  refine a_aload_n C dX11_needs_136 rfl 0 rfl ?_
                  refine a_iconst (v := (1 : Int32)) C dX11_needs_137 (by decide) ?_
                  refine a_aload_n C dX11_needs_138 rfl 0 rfl ?_
                  obtain ⟨a113, e112, e⟩ := bA_some e
                  refine a_getN C cb10 5 (by decide) fl_X11_39 rfl dX11_needs_139 e112 ?_
                  obtain ⟨g115, e114, e⟩ := bA_some e
                  refine a_getI C cb9 6 (by decide) fl_X11_243 rfl dX11_needs_142 e114 ?_
                  refine a_mmax C ml_X11_260 sm_J9_max_7cf53 ini_J9 co_J9_max_7cf53 (Nat.le_of_ble_eq_true rfl) (Nat.le_of_ble_eq_true rfl) (Nat.le_of_ble_eq_true rfl) (Nat.le_of_ble_eq_true rfl) dX11_needs_145 ?_
                  obtain ⟨u122, ec121, e⟩ := bA_some e
                  obtain ⟨fs120, eo119⟩ := isC_some ec121
                  obtain ⟨r118, h116, e117, e⟩ := b2_some e
                  refine a_callV (as := [.int (if (1 : Int32) < g115 then g115 else (1 : Int32))]) (rest := []) C m_X11_well im_X11_well cb10 se_X11_X11_well_X11_well ml_X11_84 rfl (Nat.le_of_ble_eq_true rfl) (Nat.le_of_ble_eq_true rfl) (Nat.le_of_ble_eq_true rfl) (Nat.le_of_ble_eq_true rfl) (Nat.le_of_ble_eq_true rfl) dX11_needs_148 eo119 (k_X11_well e117) rfl ?_
                  show AW G lo 0 0 151 [(0, .ref (lo + x0)), (1, .int x1), (2, .int x2), (3, .int x3), (4, .int x4), (5, .int r26)] [.int r118] h116
                  obtain ⟨rfl, rfl⟩ := sp2 e
                  exact a_iret C q (Nat.le_of_ble_eq_true rfl) (Nat.le_of_ble_eq_true rfl) dX11_needs_151
              · have e := iN c80 e
                refine a_aload_n C dX11_needs_122 rfl 0 rfl ?_
                refine a_ldc_w C ko_X11_259 dX11_needs_123 ?_
                obtain ⟨u131, ec130, e⟩ := bA_some e
                obtain ⟨fs129, eo128⟩ := isC_some ec130
                obtain ⟨r127, h125, e126, e⟩ := b2_some e
                refine a_callV (as := [.int (-1000000 : Int32)]) (rest := []) C m_X11_well im_X11_well cb10 se_X11_X11_well_X11_well ml_X11_84 rfl (Nat.le_of_ble_eq_true rfl) (Nat.le_of_ble_eq_true rfl) (Nat.le_of_ble_eq_true rfl) (Nat.le_of_ble_eq_true rfl) (Nat.le_of_ble_eq_true rfl) dX11_needs_126 eo128 (k_X11_well e126) rfl ?_
                show AW G lo 0 0 129 [(0, .ref (lo + x0)), (1, .int x1), (2, .int x2), (3, .int x3), (4, .int x4), (5, .int r26)] [.int r127] h125
                obtain ⟨rfl, rfl⟩ := sp2 e
                exact a_iret C q (Nat.le_of_ble_eq_true rfl) (Nat.le_of_ble_eq_true rfl) dX11_needs_129
            have e := eb50
            refine a_icmp_ne (tgt := 85) C dX11_needs_70 (by decide) (fun c47 => ?_) (fun c47 => ?_)
            · have e := iN c47 e
              refine a_aload_n C dX11_needs_85 rfl 1 rfl ?_
              obtain ⟨a52, e51, e⟩ := bA_some e
              refine a_getN C cb10 6 (by decide) fl_X11_42 rfl dX11_needs_86 e51 ?_
              refine a_bipush (v := (63 : Int32)) C dX11_needs_89 (by decide) ?_
              obtain ⟨h54, e53, e⟩ := bA_some e
              refine a_putI C cb2 7 (by decide) fl_X11_204 rfl (by decide +kernel) dX11_needs_91 e53 ?_
              obtain rfl := sp1 e
              exact a_widen (Nat.le_of_ble_eq_true rfl) (Nat.le_of_ble_eq_true rfl) (a_sub [1, 2, 3, 4, 5, 0] rfl jj49)
            · have e := ip c47 e
              refine a_aload_n C dX11_needs_73 rfl 1 rfl ?_
              obtain ⟨a56, e55, e⟩ := bA_some e
              refine a_getN C cb10 6 (by decide) fl_X11_42 rfl dX11_needs_74 e55 ?_
              refine a_bipush (v := (60 : Int32)) C dX11_needs_77 (by decide) ?_
              obtain ⟨h58, e57, e⟩ := bA_some e
              refine a_putI C cb2 6 (by decide) fl_X11_210 rfl (by decide +kernel) dX11_needs_79 e57 ?_
              refine a_goto (tgt := 94) C dX11_needs_82 (by decide) ?_
              obtain rfl := sp1 e
              exact a_widen (Nat.le_of_ble_eq_true rfl) (Nat.le_of_ble_eq_true rfl) (a_sub [1, 2, 3, 4, 5, 0] rfl jj49)
          · have e := iN c33 e
            refine a_aload_n C dX11_needs_49 rfl 1 rfl ?_
            refine a_iload C dX11_needs_50 0 rfl ?_
            obtain ⟨u140, ec139, e⟩ := bA_some e
            obtain ⟨fs138, eo137⟩ := isC_some ec139
            obtain ⟨r136, h134, e135, e⟩ := b2_some e
            refine a_callV (as := [.int r26]) (rest := []) C m_X11_found im_X11_found cb10 se_X11_X11_found_X11_found ml_X11_76 rfl (Nat.le_of_ble_eq_true rfl) (Nat.le_of_ble_eq_true rfl) (Nat.le_of_ble_eq_true rfl) (Nat.le_of_ble_eq_true rfl) (Nat.le_of_ble_eq_true rfl) dX11_needs_52 eo137 (k_X11_found e135) rfl ?_
            show AW G lo 0 0 55 [(5, .int r26), (0, .ref (lo + x0)), (1, .int x1), (2, .int x2), (3, .int x3), (4, .int x4)] [.int r136] h134
            obtain ⟨rfl, rfl⟩ := sp2 e
            exact a_iret C q (Nat.le_of_ble_eq_true rfl) (Nat.le_of_ble_eq_true rfl) dX11_needs_55
        · have e := iN c23 e
          refine a_ldc C ko_X11_75 dX11_needs_32 ?_
          obtain ⟨rfl, rfl⟩ := sp2 e
          exact a_iret C q (Nat.le_of_ble_eq_true rfl) (Nat.le_of_ble_eq_true rfl) dX11_needs_34
  · have e := ip c12 e
    refine a_ldc C ko_X11_157 dX11_needs_10 ?_
    obtain ⟨rfl, rfl⟩ := sp2 e
    exact a_iret C q (Nat.le_of_ble_eq_true rfl) (Nat.le_of_ble_eq_true rfl) dX11_needs_12

set_option maxRecDepth 100000 in
def f_X11_sets_L56 {β : Type} (k : Int32 → Int32 → Int32 → Int32 → Hp → Option (β)) (x0 : Nat) (x1 : Int32) (x2 : Int32) (x3 : Int32) : Nat → Hp → Int32 → Int32 → Int32 → Int32 → Option (β)
  | 0, _, _, _, _, _ => none
  | fuel + 1, h, x4, x5, x6, x7 => (if (256 : Int32) ≤ x7 then k x4 x5 x6 x7 h else b4 (if (x7 &&& (x3 ^^^ (-1 : Int32))) = 0 then bA (gN h x0 10 3) fun a37 => bA (isC h a37 2) fun u44 => b2 (f_X3_weightOf h a37 x7) fun r40 h38 => (if r40 = x1 then some ((x4 + (1 : Int32)), (x5 &&& x7), (x6 ||| x7), h38) else some (x4, x5, x6, h38)) else some (x4, x5, x6, h)) fun j30 j31 j32 h33 => f_X11_sets_L56 k x0 x1 x2 x3 fuel h33 j30 j31 j32 (x7 + (1 : Int32)))

set_option maxRecDepth 100000 in
def f_X11_sets (h : Hp) (x0 : Nat) (x1 : Int32) (x2 : Int32) : Option (Int32 × Hp) := bA (gN h x0 10 3) fun a2 => bA (isC h a2 2) fun u9 => b2 (f_X3_stands h a2 ) fun r5 h3 => (if r5 = 0 then some ((-1000002 : Int32), h3) else (if x1 < 0 then some ((-1000001 : Int32), h3) else (if (160 : Int32) < x1 then some ((-1000001 : Int32), h3) else (if x2 < 0 then some ((-1000001 : Int32), h3) else (if x2 ≤ (2 : Int32) then bA (gN h3 x0 10 3) fun a18 => bA (isC h3 a18 2) fun u25 => b2 (f_X3_filledRooms h3 a18 ) fun r21 h19 => f_X11_sets_L56 (fun y49 y50 y51 y52 h48 => (if x2 = 0 then some (y49, h48) else (if x2 = (2 : Int32) then some (y51, h48) else bA (if y49 = 0 then some (0 : Int32) else some y50) fun j56 => some (j56, h48)))) x0 x1 x2 r21 2000 h19 (0 : Int32) r21 (0 : Int32) (0 : Int32) else some ((-1000001 : Int32), h3))))))

theorem m_X11_sets : MI yX11_sets cX11_sets 8 (some .int) 2 := ⟨co_X11_sets, ini_X11, by decide, by decide +kernel⟩
set_option maxRecDepth 100000 in
set_option maxHeartbeats 4000000 in
theorem w_X11_sets_L56 {G : Gm} {lo : Nat} {ce sl : Nat} (C : CX G lo cX11_sets RX11 (some .int) ({ frames := 1, cells := 0, slots := 0, locals := 23 } : Room) 8) {β : Type} {res : β} {k : Int32 → Int32 → Int32 → Int32 → Hp → Option (β)} {x0 : Nat} {x1 : Int32} {x2 : Int32} {x3 : Int32} (hk : ∀ (h : Hp) (x4 : Int32) (x5 : Int32) (x6 : Int32) (x7 : Int32), k x4 x5 x6 x7 h = some res → AW G lo ce sl 109 [(0, .ref (lo + x0)), (1, .int x1), (2, .int x2), (3, .int x3), (4, .int x4), (5, .int x5), (6, .int x6), (7, .int x7)] [] h) (hce : ce ≤ 0) (hsl : sl ≤ 0) : ∀ (fuel : Nat) (h : Hp) (x4 : Int32) (x5 : Int32) (x6 : Int32) (x7 : Int32), f_X11_sets_L56 k x0 x1 x2 x3 fuel h x4 x5 x6 x7 = some res → AW G lo ce sl 56 [(0, .ref (lo + x0)), (1, .int x1), (2, .int x2), (3, .int x3), (4, .int x4), (5, .int x5), (6, .int x6), (7, .int x7)] [] h := by
  intro fuel
  induction fuel with
  | zero =>
    intro h x4 x5 x6 x7 e
    cases (show (none : Option (β)) = some res from e)
  | succ fuel ih =>
    intro h x4 x5 x6 x7 e
    rw [f_X11_sets_L56] at e
    refine a_iload C dX11_sets_56 7 rfl ?_
    refine a_sipush (v := (256 : Int32)) C dX11_sets_58 (by decide) ?_
    refine a_icmp_ge (tgt := 109) C dX11_sets_61 (by decide) (fun c28 => ?_) (fun c28 => ?_)
    · have e := ip c28 e
      exact a_sub [0, 1, 2, 3, 4, 5, 6, 7] rfl (hk _ _ _ _ _ e)
    · have e := iN c28 e
      refine a_iload C dX11_sets_64 7 rfl ?_
      refine a_iload_n C dX11_sets_66 rfl 3 rfl ?_
      refine a_iconst (v := (-1 : Int32)) C dX11_sets_67 (by decide) ?_
      refine a_ixor C dX11_sets_68 ?_
      refine a_iand C dX11_sets_69 ?_
      obtain ⟨j30, j31, j32, h33, eb35, e⟩ := b4_some e
      have jj34 : AW G lo ce sl 103 [(0, .ref (lo + x0)), (1, .int x1), (2, .int x2), (3, .int x3), (4, .int j30), (5, .int j31), (6, .int j32), (7, .int x7)] [] h33 := by
        refine a_iinc (v := x7 + (1 : Int32)) (lv2 := [(7, .int (x7 + (1 : Int32))), (0, .ref (lo + x0)), (1, .int x1), (2, .int x2), (3, .int x3), (4, .int j30), (5, .int j31), (6, .int j32)]) C dX11_sets_103 7 rfl rfl (by decide) rfl ?_
        refine a_goto (tgt := 56) C dX11_sets_106 (by decide) ?_
        exact a_sub [1, 2, 3, 4, 5, 6, 7, 0] rfl (ih _ _ _ _ _ e)
      have e := eb35
      refine a_if_ne (tgt := 103) C dX11_sets_70 (by decide) (fun c29 => ?_) (fun c29 => ?_)
      · have e := iN c29 e
        obtain ⟨rfl, rfl, rfl, rfl⟩ := sp4 e
        exact a_widen (Nat.le_refl _) (Nat.le_refl _) (a_sub [0, 1, 2, 3, 4, 5, 6, 7] rfl jj34)
      · have e := ip c29 e
        refine a_aload_n C dX11_sets_73 rfl 0 rfl ?_
        obtain ⟨a37, e36, e⟩ := bA_some e
        refine a_getN C cb10 3 (by decide) fl_X11_33 rfl dX11_sets_74 e36 ?_
        refine a_iload C dX11_sets_77 7 rfl ?_
        obtain ⟨u44, ec43, e⟩ := bA_some e
        obtain ⟨fs42, eo41⟩ := isC_some ec43
        obtain ⟨r40, h38, e39, e⟩ := b2_some e
        refine a_callV (as := [.int x7]) (rest := []) C m_X3_weightOf im_X3_weightOf cb2 se_X3_X3_weightOf_X3_weightOf ml_X11_276 rfl (Nat.le_of_ble_eq_true rfl) (Nat.le_of_ble_eq_true rfl) (by exact hce) (by exact hsl) (Nat.le_of_ble_eq_true rfl) dX11_sets_79 eo41 (k_X3_weightOf e39) rfl ?_
        show AW G lo ce sl 82 [(0, .ref (lo + x0)), (1, .int x1), (2, .int x2), (3, .int x3), (4, .int x4), (5, .int x5), (6, .int x6), (7, .int x7)] [.int r40] h38
        refine a_iload_n C dX11_sets_82 rfl 1 rfl ?_
        refine a_icmp_ne (tgt := 103) C dX11_sets_83 (by decide) (fun c47 => ?_) (fun c47 => ?_)
        · have e := iN c47 e
          obtain ⟨rfl, rfl, rfl, rfl⟩ := sp4 e
          exact a_widen (Nat.le_refl _) (Nat.le_refl _) (a_sub [0, 1, 2, 3, 4, 5, 6, 7] rfl jj34)
        · have e := ip c47 e
          refine a_iinc (v := x4 + (1 : Int32)) (lv2 := [(4, .int (x4 + (1 : Int32))), (0, .ref (lo + x0)), (1, .int x1), (2, .int x2), (3, .int x3), (5, .int x5), (6, .int x6), (7, .int x7)]) C dX11_sets_86 4 rfl rfl (by decide) rfl ?_
          refine a_iload C dX11_sets_89 5 rfl ?_
          refine a_iload C dX11_sets_91 7 rfl ?_
          refine a_iand C dX11_sets_93 ?_
          refine a_istore (lv2 := [(5, .int (x5 &&& x7)), (4, .int (x4 + (1 : Int32))), (0, .ref (lo + x0)), (1, .int x1), (2, .int x2), (3, .int x3), (6, .int x6), (7, .int x7)]) C dX11_sets_94 (by decide) rfl ?_
          refine a_iload C dX11_sets_96 6 rfl ?_
          refine a_iload C dX11_sets_98 7 rfl ?_
          refine a_ior C dX11_sets_100 ?_
          refine a_istore (lv2 := [(6, .int (x6 ||| x7)), (5, .int (x5 &&& x7)), (4, .int (x4 + (1 : Int32))), (0, .ref (lo + x0)), (1, .int x1), (2, .int x2), (3, .int x3), (7, .int x7)]) C dX11_sets_101 (by decide) rfl ?_
          obtain ⟨rfl, rfl, rfl, rfl⟩ := sp4 e
          exact a_widen (Nat.le_refl _) (Nat.le_refl _) (a_sub [3, 4, 5, 6, 2, 1, 0, 7] rfl jj34)
set_option maxRecDepth 100000 in
set_option maxHeartbeats 4000000 in
theorem k_X11_sets {lo : Nat} {h : Hp} {x0 : Nat} {x1 : Int32} {x2 : Int32} {r : Int32} {h' : Hp} (e : f_X11_sets h x0 x1 x2 = some (r, h')) : ∀ l d, AC l d lo yX11_sets cX11_sets 8 (some .int) ({ frames := 1, cells := 0, slots := 0, locals := 23 } : Room) [.ref (lo + x0), .int x1, .int x2] h (some (.int r)) h' := by
  intro l d
  refine AC_of (by decide) (Nat.le_of_ble_eq_true rfl) ?_
  intro G C _ _ q
  unfold f_X11_sets at e
  show AW G lo 0 0 0 [(0, .ref (lo + x0)), (1, .int x1), (2, .int x2)] [] h
  refine a_aload_n C dX11_sets_0 rfl 0 rfl ?_
  obtain ⟨a2, e1, e⟩ := bA_some e
  refine a_getN C cb10 3 (by decide) fl_X11_33 rfl dX11_sets_1 e1 ?_
  obtain ⟨u9, ec8, e⟩ := bA_some e
  obtain ⟨fs7, eo6⟩ := isC_some ec8
  obtain ⟨r5, h3, e4, e⟩ := b2_some e
  refine a_callV (as := []) (rest := []) C m_X3_stands im_X3_stands cb2 se_X3_X3_stands_X3_stands ml_X11_161 rfl (Nat.le_of_ble_eq_true rfl) (Nat.le_of_ble_eq_true rfl) (Nat.le_of_ble_eq_true rfl) (Nat.le_of_ble_eq_true rfl) (Nat.le_of_ble_eq_true rfl) dX11_sets_4 eo6 (k_X3_stands e4) rfl ?_
  show AW G lo 0 0 7 [(0, .ref (lo + x0)), (1, .int x1), (2, .int x2)] [.int r5] h3
  refine a_if_ne (tgt := 13) C dX11_sets_7 (by decide) (fun c12 => ?_) (fun c12 => ?_)
  · have e := iN c12 e
    refine a_iload_n C dX11_sets_13 rfl 1 rfl ?_
    refine a_if_lt (tgt := 33) C dX11_sets_14 (by decide) (fun c13 => ?_) (fun c13 => ?_)
    · have e := ip c13 e
      refine a_ldc C ko_X11_75 dX11_sets_33 ?_
      obtain ⟨rfl, rfl⟩ := sp2 e
      exact a_iret C q (Nat.le_of_ble_eq_true rfl) (Nat.le_of_ble_eq_true rfl) dX11_sets_35
    · have e := iN c13 e
      refine a_iload_n C dX11_sets_17 rfl 1 rfl ?_
      refine a_sipush (v := (160 : Int32)) C dX11_sets_18 (by decide) ?_
      refine a_icmp_gt (tgt := 33) C dX11_sets_21 (by decide) (fun c14 => ?_) (fun c14 => ?_)
      · have e := ip c14 e
        refine a_ldc C ko_X11_75 dX11_sets_33 ?_
        obtain ⟨rfl, rfl⟩ := sp2 e
        exact a_iret C q (Nat.le_of_ble_eq_true rfl) (Nat.le_of_ble_eq_true rfl) dX11_sets_35
      · have e := iN c14 e
        refine a_iload_n C dX11_sets_24 rfl 2 rfl ?_
        refine a_if_lt (tgt := 33) C dX11_sets_25 (by decide) (fun c15 => ?_) (fun c15 => ?_)
        · have e := ip c15 e
          refine a_ldc C ko_X11_75 dX11_sets_33 ?_
          obtain ⟨rfl, rfl⟩ := sp2 e
          exact a_iret C q (Nat.le_of_ble_eq_true rfl) (Nat.le_of_ble_eq_true rfl) dX11_sets_35
        · have e := iN c15 e
          refine a_iload_n C dX11_sets_28 rfl 2 rfl ?_
          refine a_iconst (v := (2 : Int32)) C dX11_sets_29 (by decide) ?_
          refine a_icmp_le (tgt := 36) C dX11_sets_30 (by decide) (fun c16 => ?_) (fun c16 => ?_)
          · have e := ip c16 e
            refine a_aload_n C dX11_sets_36 rfl 0 rfl ?_
            obtain ⟨a18, e17, e⟩ := bA_some e
            refine a_getN C cb10 3 (by decide) fl_X11_33 rfl dX11_sets_37 e17 ?_
            obtain ⟨u25, ec24, e⟩ := bA_some e
            obtain ⟨fs23, eo22⟩ := isC_some ec24
            obtain ⟨r21, h19, e20, e⟩ := b2_some e
            refine a_callV (as := []) (rest := []) C m_X3_filledRooms im_X3_filledRooms cb2 se_X3_X3_filledRooms_X3_filledRooms ml_X11_273 rfl (Nat.le_of_ble_eq_true rfl) (Nat.le_of_ble_eq_true rfl) (Nat.le_of_ble_eq_true rfl) (Nat.le_of_ble_eq_true rfl) (Nat.le_of_ble_eq_true rfl) dX11_sets_40 eo22 (k_X3_filledRooms e20) rfl ?_
            show AW G lo 0 0 43 [(0, .ref (lo + x0)), (1, .int x1), (2, .int x2)] [.int r21] h19
            refine a_istore_n (lv2 := [(3, .int r21), (0, .ref (lo + x0)), (1, .int x1), (2, .int x2)]) C dX11_sets_43 rfl (by decide) rfl ?_
            refine a_iconst (v := (0 : Int32)) C dX11_sets_44 (by decide) ?_
            refine a_istore (lv2 := [(4, .int (0 : Int32)), (3, .int r21), (0, .ref (lo + x0)), (1, .int x1), (2, .int x2)]) C dX11_sets_45 (by decide) rfl ?_
            refine a_iload_n C dX11_sets_47 rfl 1 rfl ?_
            refine a_istore (lv2 := [(5, .int r21), (4, .int (0 : Int32)), (3, .int r21), (0, .ref (lo + x0)), (1, .int x1), (2, .int x2)]) C dX11_sets_48 (by decide) rfl ?_
            refine a_iconst (v := (0 : Int32)) C dX11_sets_50 (by decide) ?_
            refine a_istore (lv2 := [(6, .int (0 : Int32)), (5, .int r21), (4, .int (0 : Int32)), (3, .int r21), (0, .ref (lo + x0)), (1, .int x1), (2, .int x2)]) C dX11_sets_51 (by decide) rfl ?_
            refine a_iconst (v := (0 : Int32)) C dX11_sets_53 (by decide) ?_
            refine a_istore (lv2 := [(7, .int (0 : Int32)), (6, .int (0 : Int32)), (5, .int r21), (4, .int (0 : Int32)), (3, .int r21), (0, .ref (lo + x0)), (1, .int x1), (2, .int x2)]) C dX11_sets_54 (by decide) rfl ?_
            refine a_sub [5, 6, 7, 4, 3, 2, 1, 0] rfl (w_X11_sets_L56 C ?_ (Nat.le_of_ble_eq_true rfl) (Nat.le_of_ble_eq_true rfl) 2000 _ _ _ _ _ e)
            intro h48 y49 y50 y51 y52 e
            show AW G lo 0 0 109 [(0, .ref (lo + x0)), (1, .int x1), (2, .int x2), (3, .int r21), (4, .int y49), (5, .int y50), (6, .int y51), (7, .int y52)] [] h48
            refine a_iload_n C dX11_sets_109 rfl 2 rfl ?_
            refine a_if_ne (tgt := 116) C dX11_sets_110 (by decide) (fun c53 => ?_) (fun c53 => ?_)
            · have e := iN c53 e
              refine a_iload_n C dX11_sets_116 rfl 2 rfl ?_
              refine a_iconst (v := (2 : Int32)) C dX11_sets_117 (by decide) ?_
              refine a_icmp_ne (tgt := 124) C dX11_sets_118 (by decide) (fun c54 => ?_) (fun c54 => ?_)
              · have e := iN c54 e
                refine a_iload C dX11_sets_124 4 rfl ?_
                obtain ⟨j56, eb58, e⟩ := bA_some e
                have jj57 : AW G lo 0 0 135 [(0, .ref (lo + x0)), (1, .int x1), (2, .int x2), (3, .int r21), (4, .int y49), (5, .int y50), (6, .int y51), (7, .int y52)] [.int j56] h48 := by
                  obtain ⟨rfl, rfl⟩ := sp2 e
                  exact a_iret C q (Nat.le_of_ble_eq_true rfl) (Nat.le_of_ble_eq_true rfl) dX11_sets_135
                have e := eb58
                refine a_if_ne (tgt := 133) C dX11_sets_126 (by decide) (fun c55 => ?_) (fun c55 => ?_)
                · have e := iN c55 e
                  refine a_iload C dX11_sets_133 5 rfl ?_
                  obtain rfl := sp1 e
                  exact a_widen (Nat.le_of_ble_eq_true rfl) (Nat.le_of_ble_eq_true rfl) (a_sub [0, 1, 2, 3, 4, 5, 6, 7] rfl jj57)
                · have e := ip c55 e
                  refine a_iconst (v := (0 : Int32)) C dX11_sets_129 (by decide) ?_
                  refine a_goto (tgt := 135) C dX11_sets_130 (by decide) ?_
                  obtain rfl := sp1 e
                  exact a_widen (Nat.le_of_ble_eq_true rfl) (Nat.le_of_ble_eq_true rfl) (a_sub [0, 1, 2, 3, 4, 5, 6, 7] rfl jj57)
              · have e := ip c54 e
                refine a_iload C dX11_sets_121 6 rfl ?_
                obtain ⟨rfl, rfl⟩ := sp2 e
                exact a_iret C q (Nat.le_of_ble_eq_true rfl) (Nat.le_of_ble_eq_true rfl) dX11_sets_123
            · have e := ip c53 e
              refine a_iload C dX11_sets_113 4 rfl ?_
              obtain ⟨rfl, rfl⟩ := sp2 e
              exact a_iret C q (Nat.le_of_ble_eq_true rfl) (Nat.le_of_ble_eq_true rfl) dX11_sets_115
          · have e := iN c16 e
            refine a_ldc C ko_X11_75 dX11_sets_33 ?_
            obtain ⟨rfl, rfl⟩ := sp2 e
            exact a_iret C q (Nat.le_of_ble_eq_true rfl) (Nat.le_of_ble_eq_true rfl) dX11_sets_35
  · have e := ip c12 e
    refine a_ldc C ko_X11_157 dX11_sets_10 ?_
    obtain ⟨rfl, rfl⟩ := sp2 e
    exact a_iret C q (Nat.le_of_ble_eq_true rfl) (Nat.le_of_ble_eq_true rfl) dX11_sets_12

set_option maxRecDepth 100000 in
def f_X11_share_L60 {β : Type} (k : Int32 → Int32 → Int32 → Hp → Option (β)) (x0 : Nat) (x1 : Int32) (x2 : Int32) (x3 : Int32) : Nat → Hp → Int32 → Int32 → Int32 → Option (β)
  | 0, _, _, _, _ => none
  | fuel + 1, h, x4, x5, x6 => bA (gN h x0 10 3) fun a35 => bA (gI h a35 2 3) fun g37 => (if g37 ≤ x6 then k x4 x5 x6 h else bA (gN h x0 10 3) fun a40 => bA (gN h a40 2 0) fun a42 => bA (ald h a42 0 x6) fun v43 => bA (nzI x3) fun u46 => bA (if x1 ≤ x6 then some x5 else bA (gN h x0 10 3) fun a52 => bA (gN h a52 2 0) fun a54 => bA (ald h a54 0 x6) fun v55 => (if v55 = 0 then some x5 else some (x5 + (1 : Int32)))) fun j48 => f_X11_share_L60 k x0 x1 x2 x3 fuel h (x4 - ((x2 * v43) / x3)) j48 (x6 + (1 : Int32)))

set_option maxRecDepth 100000 in
def f_X11_share (h : Hp) (x0 : Nat) (x1 : Int32) (x2 : Int32) : Option (Int32 × Hp) := bA (gN h x0 10 3) fun a2 => bA (isC h a2 2) fun u9 => b2 (f_X3_lacksRoom h a2 x1) fun r5 h3 => (if r5 = 0 then (if x2 < 0 then some ((-1000001 : Int32), h3) else (if x2 ≤ (999 : Int32) then bA (gN h3 x0 10 3) fun a16 => bA (isC h3 a16 2) fun u23 => b2 (f_X3_weightOfAll h3 a16 ) fun r19 h17 => (if r19 = 0 then some ((0 : Int32), h17) else bA (gN h17 x0 10 3) fun a28 => bA (gN h17 a28 2 0) fun a30 => bA (ald h17 a30 0 x1) fun v31 => (if v31 = 0 then some ((0 : Int32), h17) else f_X11_share_L60 (fun y59 y60 y61 h58 => bA (gN h58 x0 10 3) fun a63 => bA (gN h58 a63 2 0) fun a65 => bA (ald h58 a65 0 x1) fun v66 => bA (nzI r19) fun u69 => bA (if y59 ≤ y60 then some ((x2 * v66) / r19) else some (((x2 * v66) / r19) + (1 : Int32))) fun j71 => some (j71, h58)) x0 x1 x2 r19 2000 h17 x2 (0 : Int32) (0 : Int32))) else some ((-1000001 : Int32), h3))) else some ((-1000001 : Int32), h3))

theorem m_X11_share : MI yX11_share cX11_share 7 (some .int) 2 := ⟨co_X11_share, ini_X11, by decide, by decide +kernel⟩
set_option maxRecDepth 100000 in
set_option maxHeartbeats 4000000 in
theorem w_X11_share_L60 {G : Gm} {lo : Nat} {ce sl : Nat} (C : CX G lo cX11_share RX11 (some .int) ({ frames := 2, cells := 0, slots := 0, locals := 43 } : Room) 7) {β : Type} {res : β} {k : Int32 → Int32 → Int32 → Hp → Option (β)} {x0 : Nat} {x1 : Int32} {x2 : Int32} {x3 : Int32} (hk : ∀ (h : Hp) (x4 : Int32) (x5 : Int32) (x6 : Int32), k x4 x5 x6 h = some res → AW G lo ce sl 119 [(0, .ref (lo + x0)), (1, .int x1), (2, .int x2), (3, .int x3), (4, .int x4), (5, .int x5), (6, .int x6)] [] h) (hce : ce ≤ 0) (hsl : sl ≤ 0) : ∀ (fuel : Nat) (h : Hp) (x4 : Int32) (x5 : Int32) (x6 : Int32), f_X11_share_L60 k x0 x1 x2 x3 fuel h x4 x5 x6 = some res → AW G lo ce sl 60 [(0, .ref (lo + x0)), (1, .int x1), (2, .int x2), (3, .int x3), (4, .int x4), (5, .int x5), (6, .int x6)] [] h := by
  intro fuel
  induction fuel with
  | zero =>
    intro h x4 x5 x6 e
    cases (show (none : Option (β)) = some res from e)
  | succ fuel ih =>
    intro h x4 x5 x6 e
    rw [f_X11_share_L60] at e
    refine a_iload C dX11_share_60 6 rfl ?_
    refine a_aload_n C dX11_share_62 rfl 0 rfl ?_
    obtain ⟨a35, e34, e⟩ := bA_some e
    refine a_getN C cb10 3 (by decide) fl_X11_33 rfl dX11_share_63 e34 ?_
    obtain ⟨g37, e36, e⟩ := bA_some e
    refine a_getI C cb2 3 (by decide) fl_X11_279 rfl dX11_share_66 e36 ?_
    refine a_icmp_ge (tgt := 119) C dX11_share_69 (by decide) (fun c38 => ?_) (fun c38 => ?_)
    · have e := ip c38 e
      exact a_sub [0, 1, 2, 3, 4, 5, 6] rfl (hk _ _ _ _ e)
    · have e := iN c38 e
      refine a_iload C dX11_share_72 4 rfl ?_
      refine a_iload_n C dX11_share_74 rfl 2 rfl ?_
      refine a_aload_n C dX11_share_75 rfl 0 rfl ?_
      obtain ⟨a40, e39, e⟩ := bA_some e
      refine a_getN C cb10 3 (by decide) fl_X11_33 rfl dX11_share_76 e39 ?_
      obtain ⟨a42, e41, e⟩ := bA_some e
      refine a_getN C cb2 0 (by decide) fl_X11_195 rfl dX11_share_79 e41 ?_
      refine a_iload C dX11_share_82 6 rfl ?_
      obtain ⟨v43, e44, e⟩ := bA_some e
      refine a_iald C dX11_share_84 e44 ?_
      refine a_imul C dX11_share_85 ?_
      refine a_iload_n C dX11_share_86 rfl 3 rfl ?_
      obtain ⟨u46, ez45, e⟩ := bA_some e
      refine a_idiv C dX11_share_87 (nzI_some ez45) ?_
      refine a_isub C dX11_share_88 ?_
      refine a_istore (lv2 := [(4, .int (x4 - ((x2 * v43) / x3))), (0, .ref (lo + x0)), (1, .int x1), (2, .int x2), (3, .int x3), (5, .int x5), (6, .int x6)]) C dX11_share_89 (by decide) rfl ?_
      refine a_iload C dX11_share_91 6 rfl ?_
      refine a_iload_n C dX11_share_93 rfl 2 rfl ?_
      obtain ⟨j48, eb50, e⟩ := bA_some e
      have jj49 : AW G lo ce sl 113 [(0, .ref (lo + x0)), (1, .int x1), (2, .int x2), (3, .int x3), (4, .int (x4 - ((x2 * v43) / x3))), (5, .int j48), (6, .int x6)] [] h := by
        refine a_iinc (v := x6 + (1 : Int32)) (lv2 := [(6, .int (x6 + (1 : Int32))), (0, .ref (lo + x0)), (1, .int x1), (2, .int x2), (3, .int x3), (4, .int (x4 - ((x2 * v43) / x3))), (5, .int j48)]) C dX11_share_113 6 rfl rfl (by decide) rfl ?_
        refine a_goto (tgt := 60) C dX11_share_116 (by decide) ?_
        exact a_sub [1, 2, 3, 4, 5, 6, 0] rfl (ih _ _ _ _ e)
      have e := eb50
      refine a_icmp_ge (tgt := 113) C dX11_share_94 (by decide) (fun c47 => ?_) (fun c47 => ?_)
      · have e := ip c47 e
        obtain rfl := sp1 e
        exact a_widen (Nat.le_refl _) (Nat.le_refl _) (a_sub [1, 2, 3, 4, 0, 5, 6] rfl jj49)
      · have e := iN c47 e
        refine a_aload_n C dX11_share_97 rfl 1 rfl ?_
        obtain ⟨a52, e51, e⟩ := bA_some e
        refine a_getN C cb10 3 (by decide) fl_X11_33 rfl dX11_share_98 e51 ?_
        obtain ⟨a54, e53, e⟩ := bA_some e
        refine a_getN C cb2 0 (by decide) fl_X11_195 rfl dX11_share_101 e53 ?_
        refine a_iload C dX11_share_104 6 rfl ?_
        obtain ⟨v55, e56, e⟩ := bA_some e
        refine a_iald C dX11_share_106 e56 ?_
        refine a_if_eq (tgt := 113) C dX11_share_107 (by decide) (fun c57 => ?_) (fun c57 => ?_)
        · have e := ip c57 e
          obtain rfl := sp1 e
          exact a_widen (Nat.le_refl _) (Nat.le_refl _) (a_sub [1, 2, 3, 4, 0, 5, 6] rfl jj49)
        · have e := iN c57 e
          refine a_iinc (v := x5 + (1 : Int32)) (lv2 := [(5, .int (x5 + (1 : Int32))), (4, .int (x4 - ((x2 * v43) / x3))), (0, .ref (lo + x0)), (1, .int x1), (2, .int x2), (3, .int x3), (6, .int x6)]) C dX11_share_110 5 rfl rfl (by decide) rfl ?_
          obtain rfl := sp1 e
          exact a_widen (Nat.le_refl _) (Nat.le_refl _) (a_sub [2, 3, 4, 5, 1, 0, 6] rfl jj49)
set_option maxRecDepth 100000 in
set_option maxHeartbeats 4000000 in
theorem k_X11_share {lo : Nat} {h : Hp} {x0 : Nat} {x1 : Int32} {x2 : Int32} {r : Int32} {h' : Hp} (e : f_X11_share h x0 x1 x2 = some (r, h')) : ∀ l d, AC l d lo yX11_share cX11_share 7 (some .int) ({ frames := 2, cells := 0, slots := 0, locals := 43 } : Room) [.ref (lo + x0), .int x1, .int x2] h (some (.int r)) h' := by
  intro l d
  refine AC_of (by decide) (Nat.le_of_ble_eq_true rfl) ?_
  intro G C _ _ q
  unfold f_X11_share at e
  show AW G lo 0 0 0 [(0, .ref (lo + x0)), (1, .int x1), (2, .int x2)] [] h
  refine a_aload_n C dX11_share_0 rfl 0 rfl ?_
  obtain ⟨a2, e1, e⟩ := bA_some e
  refine a_getN C cb10 3 (by decide) fl_X11_33 rfl dX11_share_1 e1 ?_
  refine a_iload_n C dX11_share_4 rfl 1 rfl ?_
  obtain ⟨u9, ec8, e⟩ := bA_some e
  obtain ⟨fs7, eo6⟩ := isC_some ec8
  obtain ⟨r5, h3, e4, e⟩ := b2_some e
  refine a_callV (as := [.int x1]) (rest := []) C m_X3_lacksRoom im_X3_lacksRoom cb2 se_X3_X3_lacksRoom_X3_lacksRoom ml_X11_192 rfl (Nat.le_of_ble_eq_true rfl) (Nat.le_of_ble_eq_true rfl) (Nat.le_of_ble_eq_true rfl) (Nat.le_of_ble_eq_true rfl) (Nat.le_of_ble_eq_true rfl) dX11_share_5 eo6 (k_X3_lacksRoom e4) rfl ?_
  show AW G lo 0 0 8 [(0, .ref (lo + x0)), (1, .int x1), (2, .int x2)] [.int r5] h3
  refine a_if_ne (tgt := 22) C dX11_share_8 (by decide) (fun c12 => ?_) (fun c12 => ?_)
  · have e := iN c12 e
    refine a_ldc C ko_X11_75 dX11_share_22 ?_
    obtain ⟨rfl, rfl⟩ := sp2 e
    exact a_iret C q (Nat.le_of_ble_eq_true rfl) (Nat.le_of_ble_eq_true rfl) dX11_share_24
  · have e := ip c12 e
    refine a_iload_n C dX11_share_11 rfl 2 rfl ?_
    refine a_if_lt (tgt := 22) C dX11_share_12 (by decide) (fun c13 => ?_) (fun c13 => ?_)
    · have e := ip c13 e
      refine a_ldc C ko_X11_75 dX11_share_22 ?_
      obtain ⟨rfl, rfl⟩ := sp2 e
      exact a_iret C q (Nat.le_of_ble_eq_true rfl) (Nat.le_of_ble_eq_true rfl) dX11_share_24
    · have e := iN c13 e
      refine a_iload_n C dX11_share_15 rfl 2 rfl ?_
      refine a_sipush (v := (999 : Int32)) C dX11_share_16 (by decide) ?_
      refine a_icmp_le (tgt := 25) C dX11_share_19 (by decide) (fun c14 => ?_) (fun c14 => ?_)
      · have e := ip c14 e
        refine a_aload_n C dX11_share_25 rfl 0 rfl ?_
        obtain ⟨a16, e15, e⟩ := bA_some e
        refine a_getN C cb10 3 (by decide) fl_X11_33 rfl dX11_share_26 e15 ?_
        obtain ⟨u23, ec22, e⟩ := bA_some e
        obtain ⟨fs21, eo20⟩ := isC_some ec22
        obtain ⟨r19, h17, e18, e⟩ := b2_some e
        refine a_callV (as := []) (rest := []) C m_X3_weightOfAll im_X3_weightOfAll cb2 se_X3_X3_weightOfAll_X3_weightOfAll ml_X11_197 rfl (Nat.le_of_ble_eq_true rfl) (Nat.le_of_ble_eq_true rfl) (Nat.le_of_ble_eq_true rfl) (Nat.le_of_ble_eq_true rfl) (Nat.le_of_ble_eq_true rfl) dX11_share_29 eo20 (k_X3_weightOfAll e18) rfl ?_
        show AW G lo 0 0 32 [(0, .ref (lo + x0)), (1, .int x1), (2, .int x2)] [.int r19] h17
        refine a_istore_n (lv2 := [(3, .int r19), (0, .ref (lo + x0)), (1, .int x1), (2, .int x2)]) C dX11_share_32 rfl (by decide) rfl ?_
        refine a_iload_n C dX11_share_33 rfl 0 rfl ?_
        refine a_if_eq (tgt := 49) C dX11_share_34 (by decide) (fun c26 => ?_) (fun c26 => ?_)
        · have e := ip c26 e
          refine a_iconst (v := (0 : Int32)) C dX11_share_49 (by decide) ?_
          obtain ⟨rfl, rfl⟩ := sp2 e
          exact a_iret C q (Nat.le_of_ble_eq_true rfl) (Nat.le_of_ble_eq_true rfl) dX11_share_50
        · have e := iN c26 e
          refine a_aload_n C dX11_share_37 rfl 1 rfl ?_
          obtain ⟨a28, e27, e⟩ := bA_some e
          refine a_getN C cb10 3 (by decide) fl_X11_33 rfl dX11_share_38 e27 ?_
          obtain ⟨a30, e29, e⟩ := bA_some e
          refine a_getN C cb2 0 (by decide) fl_X11_195 rfl dX11_share_41 e29 ?_
          refine a_iload_n C dX11_share_44 rfl 2 rfl ?_
          obtain ⟨v31, e32, e⟩ := bA_some e
          refine a_iald C dX11_share_45 e32 ?_
          refine a_if_ne (tgt := 51) C dX11_share_46 (by decide) (fun c33 => ?_) (fun c33 => ?_)
          · have e := iN c33 e
            refine a_iload_n C dX11_share_51 rfl 3 rfl ?_
            refine a_istore (lv2 := [(4, .int x2), (3, .int r19), (0, .ref (lo + x0)), (1, .int x1), (2, .int x2)]) C dX11_share_52 (by decide) rfl ?_
            refine a_iconst (v := (0 : Int32)) C dX11_share_54 (by decide) ?_
            refine a_istore (lv2 := [(5, .int (0 : Int32)), (4, .int x2), (3, .int r19), (0, .ref (lo + x0)), (1, .int x1), (2, .int x2)]) C dX11_share_55 (by decide) rfl ?_
            refine a_iconst (v := (0 : Int32)) C dX11_share_57 (by decide) ?_
            refine a_istore (lv2 := [(6, .int (0 : Int32)), (5, .int (0 : Int32)), (4, .int x2), (3, .int r19), (0, .ref (lo + x0)), (1, .int x1), (2, .int x2)]) C dX11_share_58 (by decide) rfl ?_
            refine a_sub [4, 5, 6, 3, 2, 1, 0] rfl (w_X11_share_L60 C ?_ (Nat.le_of_ble_eq_true rfl) (Nat.le_of_ble_eq_true rfl) 2000 _ _ _ _ e)
            intro h58 y59 y60 y61 e
            show AW G lo 0 0 119 [(0, .ref (lo + x0)), (1, .int x1), (2, .int x2), (3, .int r19), (4, .int y59), (5, .int y60), (6, .int y61)] [] h58
            refine a_iload_n C dX11_share_119 rfl 2 rfl ?_
            refine a_aload_n C dX11_share_120 rfl 0 rfl ?_
            obtain ⟨a63, e62, e⟩ := bA_some e
            refine a_getN C cb10 3 (by decide) fl_X11_33 rfl dX11_share_121 e62 ?_
            obtain ⟨a65, e64, e⟩ := bA_some e
            refine a_getN C cb2 0 (by decide) fl_X11_195 rfl dX11_share_124 e64 ?_
            refine a_iload_n C dX11_share_127 rfl 1 rfl ?_
            obtain ⟨v66, e67, e⟩ := bA_some e
            refine a_iald C dX11_share_128 e67 ?_
            refine a_imul C dX11_share_129 ?_
            refine a_iload_n C dX11_share_130 rfl 3 rfl ?_
            obtain ⟨u69, ez68, e⟩ := bA_some e
            refine a_idiv C dX11_share_131 (nzI_some ez68) ?_
            refine a_istore (lv2 := [(6, .int ((x2 * v66) / r19)), (0, .ref (lo + x0)), (1, .int x1), (2, .int x2), (3, .int r19), (4, .int y59), (5, .int y60)]) C dX11_share_132 (by decide) rfl ?_
            refine a_iload C dX11_share_134 6 rfl ?_
            refine a_iload C dX11_share_136 5 rfl ?_
            obtain ⟨j71, eb73, e⟩ := bA_some e
            have jj72 : AW G lo 0 0 150 [(0, .ref (lo + x0)), (1, .int x1), (2, .int x2), (3, .int r19), (4, .int y59), (5, .int y60), (6, .int ((x2 * v66) / r19))] [.int j71] h58 := by
              obtain ⟨rfl, rfl⟩ := sp2 e
              exact a_iret C q (Nat.le_of_ble_eq_true rfl) (Nat.le_of_ble_eq_true rfl) dX11_share_150
            have e := eb73
            refine a_icmp_ge (tgt := 148) C dX11_share_138 (by decide) (fun c70 => ?_) (fun c70 => ?_)
            · have e := ip c70 e
              refine a_iload C dX11_share_148 0 rfl ?_
              obtain rfl := sp1 e
              exact a_widen (Nat.le_of_ble_eq_true rfl) (Nat.le_of_ble_eq_true rfl) (a_sub [1, 2, 3, 4, 5, 6, 0] rfl jj72)
            · have e := iN c70 e
              refine a_iload C dX11_share_141 0 rfl ?_
              refine a_iconst (v := (1 : Int32)) C dX11_share_143 (by decide) ?_
              refine a_iadd C dX11_share_144 ?_
              refine a_goto (tgt := 150) C dX11_share_145 (by decide) ?_
              obtain rfl := sp1 e
              exact a_widen (Nat.le_of_ble_eq_true rfl) (Nat.le_of_ble_eq_true rfl) (a_sub [1, 2, 3, 4, 5, 6, 0] rfl jj72)
          · have e := ip c33 e
            refine a_iconst (v := (0 : Int32)) C dX11_share_49 (by decide) ?_
            obtain ⟨rfl, rfl⟩ := sp2 e
            exact a_iret C q (Nat.le_of_ble_eq_true rfl) (Nat.le_of_ble_eq_true rfl) dX11_share_50
      · have e := iN c14 e
        refine a_ldc C ko_X11_75 dX11_share_22 ?_
        obtain ⟨rfl, rfl⟩ := sp2 e
        exact a_iret C q (Nat.le_of_ble_eq_true rfl) (Nat.le_of_ble_eq_true rfl) dX11_share_24

set_option maxRecDepth 100000 in
def f_X11_byTurns (h : Hp) (x0 : Nat) (x1 : Int32) : Option (Int32 × Hp) := bA (gN h x0 10 3) fun a2 => bA (isC h a2 2) fun u9 => b2 (f_X3_stands h a2 ) fun r5 h3 => (if r5 = 0 then some ((-1000002 : Int32), h3) else (if x1 < 0 then some ((-1000001 : Int32), h3) else (if x1 ≤ (3 : Int32) then bA (gN h3 x0 10 6) fun a16 => bA (gN h3 x0 10 3) fun a18 => bA (isC h3 a16 2) fun u25 => bA (f_X3_become h3 a16 a18) fun h19 => bA (isC h19 x0 10) fun u34 => b2 (f_X11_playTurns h19 x0 (0 : Int32) x1) fun r30 h28 => some (r30, h28) else some ((-1000001 : Int32), h3))))

theorem m_X11_byTurns : MI yX11_byTurns cX11_byTurns 2 (some .int) 1 := ⟨co_X11_byTurns, ini_X11, by decide, by decide +kernel⟩
set_option maxRecDepth 100000 in
set_option maxHeartbeats 4000000 in
theorem k_X11_byTurns {lo : Nat} {h : Hp} {x0 : Nat} {x1 : Int32} {r : Int32} {h' : Hp} (e : f_X11_byTurns h x0 x1 = some (r, h')) : ∀ l d, AC l d lo yX11_byTurns cX11_byTurns 2 (some .int) ({ frames := 10, cells := 0, slots := 0, locals := 276 } : Room) [.ref (lo + x0), .int x1] h (some (.int r)) h' := by
  intro l d
  refine AC_of (by decide) (Nat.le_of_ble_eq_true rfl) ?_
  intro G C _ _ q
  unfold f_X11_byTurns at e
  show AW G lo 0 0 0 [(0, .ref (lo + x0)), (1, .int x1)] [] h
  refine a_aload_n C dX11_byTurns_0 rfl 0 rfl ?_
  obtain ⟨a2, e1, e⟩ := bA_some e
  refine a_getN C cb10 3 (by decide) fl_X11_33 rfl dX11_byTurns_1 e1 ?_
  obtain ⟨u9, ec8, e⟩ := bA_some e
  obtain ⟨fs7, eo6⟩ := isC_some ec8
  obtain ⟨r5, h3, e4, e⟩ := b2_some e
  refine a_callV (as := []) (rest := []) C m_X3_stands im_X3_stands cb2 se_X3_X3_stands_X3_stands ml_X11_161 rfl (Nat.le_of_ble_eq_true rfl) (Nat.le_of_ble_eq_true rfl) (Nat.le_of_ble_eq_true rfl) (Nat.le_of_ble_eq_true rfl) (Nat.le_of_ble_eq_true rfl) dX11_byTurns_4 eo6 (k_X3_stands e4) rfl ?_
  show AW G lo 0 0 7 [(0, .ref (lo + x0)), (1, .int x1)] [.int r5] h3
  refine a_if_ne (tgt := 13) C dX11_byTurns_7 (by decide) (fun c12 => ?_) (fun c12 => ?_)
  · have e := iN c12 e
    refine a_iload_n C dX11_byTurns_13 rfl 1 rfl ?_
    refine a_if_lt (tgt := 22) C dX11_byTurns_14 (by decide) (fun c13 => ?_) (fun c13 => ?_)
    · have e := ip c13 e
      refine a_ldc C ko_X11_75 dX11_byTurns_22 ?_
      obtain ⟨rfl, rfl⟩ := sp2 e
      exact a_iret C q (Nat.le_of_ble_eq_true rfl) (Nat.le_of_ble_eq_true rfl) dX11_byTurns_24
    · have e := iN c13 e
      refine a_iload_n C dX11_byTurns_17 rfl 1 rfl ?_
      refine a_iconst (v := (3 : Int32)) C dX11_byTurns_18 (by decide) ?_
      refine a_icmp_le (tgt := 25) C dX11_byTurns_19 (by decide) (fun c14 => ?_) (fun c14 => ?_)
      · have e := ip c14 e
        refine a_aload_n C dX11_byTurns_25 rfl 0 rfl ?_
        obtain ⟨a16, e15, e⟩ := bA_some e
        refine a_getN C cb10 6 (by decide) fl_X11_42 rfl dX11_byTurns_26 e15 ?_
        refine a_aload_n C dX11_byTurns_29 rfl 0 rfl ?_
        obtain ⟨a18, e17, e⟩ := bA_some e
        refine a_getN C cb10 3 (by decide) fl_X11_33 rfl dX11_byTurns_30 e17 ?_
        obtain ⟨u25, ec24, e⟩ := bA_some e
        obtain ⟨fs23, eo22⟩ := isC_some ec24
        obtain ⟨h19, e20, e⟩ := bA_some e
        refine a_callV (as := [.ref (lo + a18)]) (rest := []) C m_X3_become im_X3_become cb2 se_X3_X3_become_X3_become ml_X11_141 rfl (Nat.le_of_ble_eq_true rfl) (Nat.le_of_ble_eq_true rfl) (Nat.le_of_ble_eq_true rfl) (Nat.le_of_ble_eq_true rfl) (Nat.le_of_ble_eq_true rfl) dX11_byTurns_33 eo22 (k_X3_become e20) rfl ?_
        show AW G lo 0 0 36 [(0, .ref (lo + x0)), (1, .int x1)] [] h19
        refine a_aload_n C dX11_byTurns_36 rfl 0 rfl ?_
        refine a_iconst (v := (0 : Int32)) C dX11_byTurns_37 (by decide) ?_
        refine a_iload_n C dX11_byTurns_38 rfl 1 rfl ?_
        obtain ⟨u34, ec33, e⟩ := bA_some e
        obtain ⟨fs32, eo31⟩ := isC_some ec33
        obtain ⟨r30, h28, e29, e⟩ := b2_some e
        refine a_callV (as := [.int (0 : Int32), .int x1]) (rest := []) C m_X11_playTurns im_X11_playTurns cb10 se_X11_X11_playTurns_X11_playTurns ml_X11_282 rfl (Nat.le_of_ble_eq_true rfl) (Nat.le_of_ble_eq_true rfl) (Nat.le_of_ble_eq_true rfl) (Nat.le_of_ble_eq_true rfl) (Nat.le_of_ble_eq_true rfl) dX11_byTurns_39 eo31 (k_X11_playTurns e29) rfl ?_
        show AW G lo 0 0 42 [(0, .ref (lo + x0)), (1, .int x1)] [.int r30] h28
        obtain ⟨rfl, rfl⟩ := sp2 e
        exact a_iret C q (Nat.le_of_ble_eq_true rfl) (Nat.le_of_ble_eq_true rfl) dX11_byTurns_42
      · have e := iN c14 e
        refine a_ldc C ko_X11_75 dX11_byTurns_22 ?_
        obtain ⟨rfl, rfl⟩ := sp2 e
        exact a_iret C q (Nat.le_of_ble_eq_true rfl) (Nat.le_of_ble_eq_true rfl) dX11_byTurns_24
  · have e := ip c12 e
    refine a_ldc C ko_X11_157 dX11_byTurns_10 ?_
    obtain ⟨rfl, rfl⟩ := sp2 e
    exact a_iret C q (Nat.le_of_ble_eq_true rfl) (Nat.le_of_ble_eq_true rfl) dX11_byTurns_12

set_option maxRecDepth 100000 in
def f_X11_who (h : Hp) (x0 : Nat) (x1 : Int32) (x2 : Int32) (x3 : Int32) (x4 : Int32) (x5 : Int32) (x6 : Int32) : Option (Int32 × Hp) := bA (gN h x0 10 3) fun a2 => bA (isC h a2 2) fun u9 => b2 (f_X3_lacksDoor h a2 x1) fun r5 h3 => (if r5 = 0 then (if x2 < 0 then some ((-1000001 : Int32), h3) else (if x2 ≤ (3 : Int32) then b2 (f_X11_isBadRoute h3 x3 x5) fun r17 h15 => (if r17 = 0 then b2 (f_X11_isOutcome h15 x6) fun r26 h24 => (if r26 = 0 then some ((-1000001 : Int32), h24) else bA (isC h24 x0 10) fun u39 => b2 (f_X11_lackOfRoute h24 x0 x3 x4 x5) fun r35 h33 => (if r35 = 0 then bA (gN h33 x0 10 0) fun a44 => bA (aldn h33 a44 2 x3) fun a46 => bA (gN h33 a46 7 0) fun a48 => (if x2 = 0 then bA (isC h33 x0 10) fun u97 => b2 (f_X11_kindsFor h33 x0 x1 a48 x4 x5 x6) fun r93 h91 => bA (isC h91 x0 10) fun u106 => b2 (f_X11_well h91 x0 r93) fun r102 h100 => some (r102, h100) else (if x2 = (1 : Int32) then bA (isC h33 x0 10) fun u79 => b2 (f_X11_numbersFor h33 x0 x1 a48 x4 x5 x6) fun r75 h73 => bA (isC h73 x0 10) fun u88 => b2 (f_X11_well h73 x0 r75) fun r84 h82 => some (r84, h82) else bA (if x2 = (3 : Int32) then some (1 : Int32) else some (0 : Int32)) fun j52 => bA (isC h33 x0 10) fun u61 => b2 (f_X11_keysFor h33 x0 j52 a48 x4 x5 x6) fun r57 h55 => bA (isC h55 x0 10) fun u70 => b2 (f_X11_well h55 x0 r57) fun r66 h64 => some (r66, h64))) else bA (isC h33 x0 10) fun u115 => b2 (f_X11_found h33 x0 r35) fun r111 h109 => some (r111, h109))) else some ((-1000001 : Int32), h15)) else some ((-1000001 : Int32), h3))) else some ((-1000001 : Int32), h3))

theorem m_X11_who : MI yX11_who cX11_who 9 (some .int) 6 := ⟨co_X11_who, ini_X11, by decide, by decide +kernel⟩
set_option maxRecDepth 100000 in
set_option maxHeartbeats 4000000 in
theorem k_X11_who {lo : Nat} {h : Hp} {x0 : Nat} {x1 : Int32} {x2 : Int32} {x3 : Int32} {x4 : Int32} {x5 : Int32} {x6 : Int32} {r : Int32} {h' : Hp} (e : f_X11_who h x0 x1 x2 x3 x4 x5 x6 = some (r, h')) : ∀ l d, AC l d lo yX11_who cX11_who 9 (some .int) ({ frames := 7, cells := 12, slots := 48, locals := 167 } : Room) [.ref (lo + x0), .int x1, .int x2, .int x3, .int x4, .int x5, .int x6] h (some (.int r)) h' := by
  intro l d
  refine AC_of (by decide) (Nat.le_of_ble_eq_true rfl) ?_
  intro G C _ _ q
  unfold f_X11_who at e
  show AW G lo 0 0 0 [(0, .ref (lo + x0)), (1, .int x1), (2, .int x2), (3, .int x3), (4, .int x4), (5, .int x5), (6, .int x6)] [] h
  refine a_aload_n C dX11_who_0 rfl 0 rfl ?_
  obtain ⟨a2, e1, e⟩ := bA_some e
  refine a_getN C cb10 3 (by decide) fl_X11_33 rfl dX11_who_1 e1 ?_
  refine a_iload_n C dX11_who_4 rfl 1 rfl ?_
  obtain ⟨u9, ec8, e⟩ := bA_some e
  obtain ⟨fs7, eo6⟩ := isC_some ec8
  obtain ⟨r5, h3, e4, e⟩ := b2_some e
  refine a_callV (as := [.int x1]) (rest := []) C m_X3_lacksDoor im_X3_lacksDoor cb2 se_X3_X3_lacksDoor_X3_lacksDoor ml_X11_186 rfl (Nat.le_of_ble_eq_true rfl) (Nat.le_of_ble_eq_true rfl) (Nat.le_of_ble_eq_true rfl) (Nat.le_of_ble_eq_true rfl) (Nat.le_of_ble_eq_true rfl) dX11_who_5 eo6 (k_X3_lacksDoor e4) rfl ?_
  show AW G lo 0 0 8 [(0, .ref (lo + x0)), (1, .int x1), (2, .int x2), (3, .int x3), (4, .int x4), (5, .int x5), (6, .int x6)] [.int r5] h3
  refine a_if_ne (tgt := 20) C dX11_who_8 (by decide) (fun c12 => ?_) (fun c12 => ?_)
  · have e := iN c12 e
    refine a_ldc C ko_X11_75 dX11_who_20 ?_
    obtain ⟨rfl, rfl⟩ := sp2 e
    exact a_iret C q (Nat.le_of_ble_eq_true rfl) (Nat.le_of_ble_eq_true rfl) dX11_who_22
  · have e := ip c12 e
    refine a_iload_n C dX11_who_11 rfl 2 rfl ?_
    refine a_if_lt (tgt := 20) C dX11_who_12 (by decide) (fun c13 => ?_) (fun c13 => ?_)
    · have e := ip c13 e
      refine a_ldc C ko_X11_75 dX11_who_20 ?_
      obtain ⟨rfl, rfl⟩ := sp2 e
      exact a_iret C q (Nat.le_of_ble_eq_true rfl) (Nat.le_of_ble_eq_true rfl) dX11_who_22
    · have e := iN c13 e
      refine a_iload_n C dX11_who_15 rfl 2 rfl ?_
      refine a_iconst (v := (3 : Int32)) C dX11_who_16 (by decide) ?_
      refine a_icmp_le (tgt := 23) C dX11_who_17 (by decide) (fun c14 => ?_) (fun c14 => ?_)
      · have e := ip c14 e
        refine a_iload_n C dX11_who_23 rfl 3 rfl ?_
        refine a_iload C dX11_who_24 5 rfl ?_
        obtain ⟨r17, h15, e16, e⟩ := b2_some e
        refine a_callS (as := [.int x3, .int x5]) (rest := []) C m_X11_isBadRoute sm_X11_isBadRoute ml_X11_164 rfl (Nat.le_of_ble_eq_true rfl) (Nat.le_of_ble_eq_true rfl) (Nat.le_of_ble_eq_true rfl) (Nat.le_of_ble_eq_true rfl) (Nat.le_of_ble_eq_true rfl) dX11_who_26 (k_X11_isBadRoute e16) rfl ?_
        show AW G lo 0 0 29 [(0, .ref (lo + x0)), (1, .int x1), (2, .int x2), (3, .int x3), (4, .int x4), (5, .int x5), (6, .int x6)] [.int r17] h15
        refine a_if_ne (tgt := 40) C dX11_who_29 (by decide) (fun c23 => ?_) (fun c23 => ?_)
        · have e := iN c23 e
          refine a_ldc C ko_X11_75 dX11_who_40 ?_
          obtain ⟨rfl, rfl⟩ := sp2 e
          exact a_iret C q (Nat.le_of_ble_eq_true rfl) (Nat.le_of_ble_eq_true rfl) dX11_who_42
        · have e := ip c23 e
          refine a_iload C dX11_who_32 6 rfl ?_
          obtain ⟨r26, h24, e25, e⟩ := b2_some e
          refine a_callS (as := [.int x6]) (rest := []) C m_X11_isOutcome sm_X11_isOutcome ml_X11_285 rfl (Nat.le_of_ble_eq_true rfl) (Nat.le_of_ble_eq_true rfl) (Nat.le_of_ble_eq_true rfl) (Nat.le_of_ble_eq_true rfl) (Nat.le_of_ble_eq_true rfl) dX11_who_34 (k_X11_isOutcome e25) rfl ?_
          show AW G lo 0 0 37 [(0, .ref (lo + x0)), (1, .int x1), (2, .int x2), (3, .int x3), (4, .int x4), (5, .int x5), (6, .int x6)] [.int r26] h24
          refine a_if_ne (tgt := 43) C dX11_who_37 (by decide) (fun c32 => ?_) (fun c32 => ?_)
          · have e := iN c32 e
            refine a_aload_n C dX11_who_43 rfl 0 rfl ?_
            refine a_iload_n C dX11_who_44 rfl 3 rfl ?_
            refine a_iload C dX11_who_45 4 rfl ?_
            refine a_iload C dX11_who_47 5 rfl ?_
            obtain ⟨u39, ec38, e⟩ := bA_some e
            obtain ⟨fs37, eo36⟩ := isC_some ec38
            obtain ⟨r35, h33, e34, e⟩ := b2_some e
            refine a_callV (as := [.int x3, .int x4, .int x5]) (rest := []) C m_X11_lackOfRoute im_X11_lackOfRoute cb10 se_X11_X11_lackOfRoute_X11_lackOfRoute ml_X11_167 rfl (Nat.le_of_ble_eq_true rfl) (Nat.le_of_ble_eq_true rfl) (Nat.le_of_ble_eq_true rfl) (Nat.le_of_ble_eq_true rfl) (Nat.le_of_ble_eq_true rfl) dX11_who_49 eo36 (k_X11_lackOfRoute e34) rfl ?_
            show AW G lo 0 0 52 [(0, .ref (lo + x0)), (1, .int x1), (2, .int x2), (3, .int x3), (4, .int x4), (5, .int x5), (6, .int x6)] [.int r35] h33
            refine a_istore (lv2 := [(7, .int r35), (0, .ref (lo + x0)), (1, .int x1), (2, .int x2), (3, .int x3), (4, .int x4), (5, .int x5), (6, .int x6)]) C dX11_who_52 (by decide) rfl ?_
            refine a_iload C dX11_who_54 0 rfl ?_
            refine a_if_eq (tgt := 66) C dX11_who_56 (by decide) (fun c42 => ?_) (fun c42 => ?_)
            · have e := ip c42 e
              refine a_aload_n C dX11_who_66 rfl 1 rfl ?_
              obtain ⟨a44, e43, e⟩ := bA_some e
              refine a_getN C cb10 0 (by decide) fl_X11_11 rfl dX11_who_67 e43 ?_
              refine a_iload_n C dX11_who_70 rfl 4 rfl ?_
              obtain ⟨a46, e45, e⟩ := bA_some e
              refine a_aldn C (by decide) dX11_who_71 e45 ?_
              obtain ⟨a48, e47, e⟩ := bA_some e
              refine a_getN C cb7 0 (by decide) fl_X11_103 rfl dX11_who_72 e47 ?_
              refine a_astore (lv2 := [(8, .ref (lo + a48)), (7, .int r35), (0, .ref (lo + x0)), (1, .int x1), (2, .int x2), (3, .int x3), (4, .int x4), (5, .int x5), (6, .int x6)]) C dX11_who_75 (by decide) rfl ?_
              refine a_iload_n C dX11_who_77 rfl 4 rfl ?_
              refine a_if_ne (tgt := 99) C dX11_who_78 (by decide) (fun c49 => ?_) (fun c49 => ?_)
              · have e := iN c49 e
                refine a_iload_n C dX11_who_99 rfl 4 rfl ?_
                refine a_iconst (v := (1 : Int32)) C dX11_who_100 (by decide) ?_
                refine a_icmp_ne (tgt := 122) C dX11_who_101 (by decide) (fun c50 => ?_) (fun c50 => ?_)
                · have e := iN c50 e
                  refine a_aload_n C dX11_who_122 rfl 2 rfl ?_
                  refine a_aload_n C dX11_who_123 rfl 2 rfl ?_
                  refine a_iload_n C dX11_who_124 rfl 4 rfl ?_
                  refine a_iconst (v := (3 : Int32)) C dX11_who_125 (by decide) ?_
                  obtain ⟨j52, eb54, e⟩ := bA_some e
                  have jj53 : AW G lo 0 0 134 [(0, .ref (lo + x0)), (1, .int x1), (2, .int x2), (3, .int x3), (4, .int x4), (5, .int x5), (6, .int x6), (7, .int r35), (8, .ref (lo + a48))] [.int j52, .ref (lo + x0), .ref (lo + x0)] h33 := by
                    refine a_aload C dX11_who_134 8 rfl ?_
                    refine a_iload C dX11_who_136 4 rfl ?_
                    refine a_iload C dX11_who_138 5 rfl ?_
                    refine a_iload C dX11_who_140 6 rfl ?_
                    obtain ⟨u61, ec60, e⟩ := bA_some e
                    obtain ⟨fs59, eo58⟩ := isC_some ec60
                    obtain ⟨r57, h55, e56, e⟩ := b2_some e
                    refine a_callV (as := [.int j52, .ref (lo + a48), .int x4, .int x5, .int x6]) (rest := [.ref (lo + x0)]) C m_X11_keysFor im_X11_keysFor cb10 se_X11_X11_keysFor_X11_keysFor ml_X11_295 rfl (Nat.le_of_ble_eq_true rfl) (Nat.le_of_ble_eq_true rfl) (Nat.le_of_ble_eq_true rfl) (Nat.le_of_ble_eq_true rfl) (Nat.le_of_ble_eq_true rfl) dX11_who_142 eo58 (k_X11_keysFor e56) rfl ?_
                    show AW G lo 0 0 145 [(0, .ref (lo + x0)), (1, .int x1), (2, .int x2), (3, .int x3), (4, .int x4), (5, .int x5), (6, .int x6), (7, .int r35), (8, .ref (lo + a48))] [.int r57, .ref (lo + x0)] h55
                    obtain ⟨u70, ec69, e⟩ := bA_some e
                    obtain ⟨fs68, eo67⟩ := isC_some ec69
                    obtain ⟨r66, h64, e65, e⟩ := b2_some e
                    refine a_callV (as := [.int r57]) (rest := []) C m_X11_well im_X11_well cb10 se_X11_X11_well_X11_well ml_X11_84 rfl (Nat.le_of_ble_eq_true rfl) (Nat.le_of_ble_eq_true rfl) (Nat.le_of_ble_eq_true rfl) (Nat.le_of_ble_eq_true rfl) (Nat.le_of_ble_eq_true rfl) dX11_who_145 eo67 (k_X11_well e65) rfl ?_
                    show AW G lo 0 0 148 [(0, .ref (lo + x0)), (1, .int x1), (2, .int x2), (3, .int x3), (4, .int x4), (5, .int x5), (6, .int x6), (7, .int r35), (8, .ref (lo + a48))] [.int r66] h64
                    obtain ⟨rfl, rfl⟩ := sp2 e
                    exact a_iret C q (Nat.le_of_ble_eq_true rfl) (Nat.le_of_ble_eq_true rfl) dX11_who_148
                  have e := eb54
                  refine a_icmp_ne (tgt := 133) C dX11_who_126 (by decide) (fun c51 => ?_) (fun c51 => ?_)
                  · have e := iN c51 e
                    refine a_iconst (v := (0 : Int32)) C dX11_who_133 (by decide) ?_
                    obtain rfl := sp1 e
                    exact a_widen (Nat.le_of_ble_eq_true rfl) (Nat.le_of_ble_eq_true rfl) (a_sub [2, 3, 4, 5, 6, 7, 8, 1, 0] rfl jj53)
                  · have e := ip c51 e
                    refine a_iconst (v := (1 : Int32)) C dX11_who_129 (by decide) ?_
                    refine a_goto (tgt := 134) C dX11_who_130 (by decide) ?_
                    obtain rfl := sp1 e
                    exact a_widen (Nat.le_of_ble_eq_true rfl) (Nat.le_of_ble_eq_true rfl) (a_sub [2, 3, 4, 5, 6, 7, 8, 1, 0] rfl jj53)
                · have e := ip c50 e
                  refine a_aload_n C dX11_who_104 rfl 2 rfl ?_
                  refine a_aload_n C dX11_who_105 rfl 2 rfl ?_
                  refine a_iload_n C dX11_who_106 rfl 3 rfl ?_
                  refine a_aload C dX11_who_107 0 rfl ?_
                  refine a_iload C dX11_who_109 6 rfl ?_
                  refine a_iload C dX11_who_111 7 rfl ?_
                  refine a_iload C dX11_who_113 8 rfl ?_
                  obtain ⟨u79, ec78, e⟩ := bA_some e
                  obtain ⟨fs77, eo76⟩ := isC_some ec78
                  obtain ⟨r75, h73, e74, e⟩ := b2_some e
                  refine a_callV (as := [.int x1, .ref (lo + a48), .int x4, .int x5, .int x6]) (rest := [.ref (lo + x0)]) C m_X11_numbersFor im_X11_numbersFor cb10 se_X11_X11_numbersFor_X11_numbersFor ml_X11_292 rfl (Nat.le_of_ble_eq_true rfl) (Nat.le_of_ble_eq_true rfl) (Nat.le_of_ble_eq_true rfl) (Nat.le_of_ble_eq_true rfl) (Nat.le_of_ble_eq_true rfl) dX11_who_115 eo76 (k_X11_numbersFor e74) rfl ?_
                  show AW G lo 12 48 118 [(8, .ref (lo + a48)), (7, .int r35), (0, .ref (lo + x0)), (1, .int x1), (2, .int x2), (3, .int x3), (4, .int x4), (5, .int x5), (6, .int x6)] [.int r75, .ref (lo + x0)] h73
                  obtain ⟨u88, ec87, e⟩ := bA_some e
                  obtain ⟨fs86, eo85⟩ := isC_some ec87
                  obtain ⟨r84, h82, e83, e⟩ := b2_some e
                  refine a_callV (as := [.int r75]) (rest := []) C m_X11_well im_X11_well cb10 se_X11_X11_well_X11_well ml_X11_84 rfl (Nat.le_of_ble_eq_true rfl) (Nat.le_of_ble_eq_true rfl) (Nat.le_of_ble_eq_true rfl) (Nat.le_of_ble_eq_true rfl) (Nat.le_of_ble_eq_true rfl) dX11_who_118 eo85 (k_X11_well e83) rfl ?_
                  show AW G lo 12 48 121 [(8, .ref (lo + a48)), (7, .int r35), (0, .ref (lo + x0)), (1, .int x1), (2, .int x2), (3, .int x3), (4, .int x4), (5, .int x5), (6, .int x6)] [.int r84] h82
                  obtain ⟨rfl, rfl⟩ := sp2 e
                  exact a_iret C q (Nat.le_of_ble_eq_true rfl) (Nat.le_of_ble_eq_true rfl) dX11_who_121
              · have e := ip c49 e
                refine a_aload_n C dX11_who_81 rfl 2 rfl ?_
                refine a_aload_n C dX11_who_82 rfl 2 rfl ?_
                refine a_iload_n C dX11_who_83 rfl 3 rfl ?_
                refine a_aload C dX11_who_84 0 rfl ?_
                refine a_iload C dX11_who_86 6 rfl ?_
                refine a_iload C dX11_who_88 7 rfl ?_
                refine a_iload C dX11_who_90 8 rfl ?_
                obtain ⟨u97, ec96, e⟩ := bA_some e
                obtain ⟨fs95, eo94⟩ := isC_some ec96
                obtain ⟨r93, h91, e92, e⟩ := b2_some e
                refine a_callV (as := [.int x1, .ref (lo + a48), .int x4, .int x5, .int x6]) (rest := [.ref (lo + x0)]) C m_X11_kindsFor im_X11_kindsFor cb10 se_X11_X11_kindsFor_X11_kindsFor ml_X11_288 rfl (Nat.le_of_ble_eq_true rfl) (Nat.le_of_ble_eq_true rfl) (Nat.le_of_ble_eq_true rfl) (Nat.le_of_ble_eq_true rfl) (Nat.le_of_ble_eq_true rfl) dX11_who_92 eo94 (k_X11_kindsFor e92) rfl ?_
                show AW G lo 12 48 95 [(8, .ref (lo + a48)), (7, .int r35), (0, .ref (lo + x0)), (1, .int x1), (2, .int x2), (3, .int x3), (4, .int x4), (5, .int x5), (6, .int x6)] [.int r93, .ref (lo + x0)] h91
                obtain ⟨u106, ec105, e⟩ := bA_some e
                obtain ⟨fs104, eo103⟩ := isC_some ec105
                obtain ⟨r102, h100, e101, e⟩ := b2_some e
                refine a_callV (as := [.int r93]) (rest := []) C m_X11_well im_X11_well cb10 se_X11_X11_well_X11_well ml_X11_84 rfl (Nat.le_of_ble_eq_true rfl) (Nat.le_of_ble_eq_true rfl) (Nat.le_of_ble_eq_true rfl) (Nat.le_of_ble_eq_true rfl) (Nat.le_of_ble_eq_true rfl) dX11_who_95 eo103 (k_X11_well e101) rfl ?_
                show AW G lo 12 48 98 [(8, .ref (lo + a48)), (7, .int r35), (0, .ref (lo + x0)), (1, .int x1), (2, .int x2), (3, .int x3), (4, .int x4), (5, .int x5), (6, .int x6)] [.int r102] h100
                obtain ⟨rfl, rfl⟩ := sp2 e
                exact a_iret C q (Nat.le_of_ble_eq_true rfl) (Nat.le_of_ble_eq_true rfl) dX11_who_98
            · have e := iN c42 e
              refine a_aload_n C dX11_who_59 rfl 1 rfl ?_
              refine a_iload C dX11_who_60 0 rfl ?_
              obtain ⟨u115, ec114, e⟩ := bA_some e
              obtain ⟨fs113, eo112⟩ := isC_some ec114
              obtain ⟨r111, h109, e110, e⟩ := b2_some e
              refine a_callV (as := [.int r35]) (rest := []) C m_X11_found im_X11_found cb10 se_X11_X11_found_X11_found ml_X11_76 rfl (Nat.le_of_ble_eq_true rfl) (Nat.le_of_ble_eq_true rfl) (Nat.le_of_ble_eq_true rfl) (Nat.le_of_ble_eq_true rfl) (Nat.le_of_ble_eq_true rfl) dX11_who_62 eo112 (k_X11_found e110) rfl ?_
              show AW G lo 0 0 65 [(7, .int r35), (0, .ref (lo + x0)), (1, .int x1), (2, .int x2), (3, .int x3), (4, .int x4), (5, .int x5), (6, .int x6)] [.int r111] h109
              obtain ⟨rfl, rfl⟩ := sp2 e
              exact a_iret C q (Nat.le_of_ble_eq_true rfl) (Nat.le_of_ble_eq_true rfl) dX11_who_65
          · have e := ip c32 e
            refine a_ldc C ko_X11_75 dX11_who_40 ?_
            obtain ⟨rfl, rfl⟩ := sp2 e
            exact a_iret C q (Nat.le_of_ble_eq_true rfl) (Nat.le_of_ble_eq_true rfl) dX11_who_42
      · have e := iN c14 e
        refine a_ldc C ko_X11_75 dX11_who_20 ?_
        obtain ⟨rfl, rfl⟩ := sp2 e
        exact a_iret C q (Nat.le_of_ble_eq_true rfl) (Nat.le_of_ble_eq_true rfl) dX11_who_22

set_option maxRecDepth 100000 in
def f_X11_sticks (h : Hp) (x0 : Nat) (x1 : Int32) (x2 : Int32) (x3 : Int32) (x4 : Int32) (x5 : Int32) : Option (Int64 × Hp) := bA (gN h x0 10 3) fun a2 => bA (isC h a2 2) fun u9 => b2 (f_X3_stands h a2 ) fun r5 h3 => (if r5 = 0 then some ((-1000002 : Int64), h3) else b2 (f_X11_isBadRoute h3 x1 x3) fun r15 h13 => (if r15 = 0 then (if x4 < 0 then some ((-1000001 : Int64), h13) else (if (10 : Int32) < x4 then some ((-1000001 : Int64), h13) else (if x5 < 0 then some ((-1000001 : Int64), h13) else (if x5 ≤ (1 : Int32) then bA (isC h13 x0 10) fun u32 => b2 (f_X11_lackOfRoute h13 x0 x1 x2 x3) fun r28 h26 => (if r28 = 0 then bA (gN h26 x0 10 0) fun a37 => bA (aldn h26 a37 2 x1) fun a39 => bA (gN h26 a39 7 0) fun a41 => bA (isC h26 x0 10) fun u48 => bA (f_X11_foretell h26 x0 a41 x2 x3) fun h42 => bA (isC h42 x0 10) fun u57 => b2 (f_X11_well h42 x0 (0 : Int32)) fun r53 h51 => b2 (f_X11_commonDivisor h51 ((10 : Int32) - x4) (10 : Int32)) fun r62 h60 => bA (gN h60 x0 10 5) fun a69 => bA (gI h60 a69 9 10) fun g71 => (if g71 = 0 then (if r62 = 0 then some (x5.toInt64, h60) else bA (if x5 = 0 then bA (nzI r62) fun u81 => some (((10 : Int32) - x4) / r62) else bA (nzI r62) fun u79 => some ((10 : Int32) / r62)) fun j75 => bA (gN h60 x0 10 5) fun a83 => bA (gI h60 a83 9 3) fun g85 => b2 (f_X11_power h60 j75 g85) fun r88 h86 => some (r88, h86)) else some (x5.toInt64, h60)) else bA (isC h26 x0 10) fun u100 => b2 (f_X11_found h26 x0 r28) fun r96 h94 => some (r96.toInt64, h94)) else some ((-1000001 : Int64), h13))))) else some ((-1000001 : Int64), h13)))

theorem m_X11_sticks : MI yX11_sticks cX11_sticks 8 (some .long) 5 := ⟨co_X11_sticks, ini_X11, by decide, by decide +kernel⟩
set_option maxRecDepth 100000 in
set_option maxHeartbeats 4000000 in
theorem k_X11_sticks {lo : Nat} {h : Hp} {x0 : Nat} {x1 : Int32} {x2 : Int32} {x3 : Int32} {x4 : Int32} {x5 : Int32} {r : Int64} {h' : Hp} (e : f_X11_sticks h x0 x1 x2 x3 x4 x5 = some (r, h')) : ∀ l d, AC l d lo yX11_sticks cX11_sticks 8 (some .long) ({ frames := 5, cells := 0, slots := 0, locals := 125 } : Room) [.ref (lo + x0), .int x1, .int x2, .int x3, .int x4, .int x5] h (some (.long r)) h' := by
  intro l d
  refine AC_of (by decide) (Nat.le_of_ble_eq_true rfl) ?_
  intro G C _ _ q
  unfold f_X11_sticks at e
  show AW G lo 0 0 0 [(0, .ref (lo + x0)), (1, .int x1), (2, .int x2), (3, .int x3), (4, .int x4), (5, .int x5)] [] h
  refine a_aload_n C dX11_sticks_0 rfl 0 rfl ?_
  obtain ⟨a2, e1, e⟩ := bA_some e
  refine a_getN C cb10 3 (by decide) fl_X11_33 rfl dX11_sticks_1 e1 ?_
  obtain ⟨u9, ec8, e⟩ := bA_some e
  obtain ⟨fs7, eo6⟩ := isC_some ec8
  obtain ⟨r5, h3, e4, e⟩ := b2_some e
  refine a_callV (as := []) (rest := []) C m_X3_stands im_X3_stands cb2 se_X3_X3_stands_X3_stands ml_X11_161 rfl (Nat.le_of_ble_eq_true rfl) (Nat.le_of_ble_eq_true rfl) (Nat.le_of_ble_eq_true rfl) (Nat.le_of_ble_eq_true rfl) (Nat.le_of_ble_eq_true rfl) dX11_sticks_4 eo6 (k_X3_stands e4) rfl ?_
  show AW G lo 0 0 7 [(0, .ref (lo + x0)), (1, .int x1), (2, .int x2), (3, .int x3), (4, .int x4), (5, .int x5)] [.int r5] h3
  refine a_if_ne (tgt := 14) C dX11_sticks_7 (by decide) (fun c12 => ?_) (fun c12 => ?_)
  · have e := iN c12 e
    refine a_iload_n C dX11_sticks_14 rfl 1 rfl ?_
    refine a_iload_n C dX11_sticks_15 rfl 3 rfl ?_
    obtain ⟨r15, h13, e14, e⟩ := b2_some e
    refine a_callS (as := [.int x1, .int x3]) (rest := []) C m_X11_isBadRoute sm_X11_isBadRoute ml_X11_164 rfl (Nat.le_of_ble_eq_true rfl) (Nat.le_of_ble_eq_true rfl) (Nat.le_of_ble_eq_true rfl) (Nat.le_of_ble_eq_true rfl) (Nat.le_of_ble_eq_true rfl) dX11_sticks_16 (k_X11_isBadRoute e14) rfl ?_
    show AW G lo 0 0 19 [(0, .ref (lo + x0)), (1, .int x1), (2, .int x2), (3, .int x3), (4, .int x4), (5, .int x5)] [.int r15] h13
    refine a_if_ne (tgt := 45) C dX11_sticks_19 (by decide) (fun c21 => ?_) (fun c21 => ?_)
    · have e := iN c21 e
      refine a_ldc2 C kL_X11_301 dX11_sticks_45 ?_
      obtain ⟨rfl, rfl⟩ := sp2 e
      exact a_lret C q (Nat.le_of_ble_eq_true rfl) (Nat.le_of_ble_eq_true rfl) dX11_sticks_48
    · have e := ip c21 e
      refine a_iload C dX11_sticks_22 4 rfl ?_
      refine a_if_lt (tgt := 45) C dX11_sticks_24 (by decide) (fun c22 => ?_) (fun c22 => ?_)
      · have e := ip c22 e
        refine a_ldc2 C kL_X11_301 dX11_sticks_45 ?_
        obtain ⟨rfl, rfl⟩ := sp2 e
        exact a_lret C q (Nat.le_of_ble_eq_true rfl) (Nat.le_of_ble_eq_true rfl) dX11_sticks_48
      · have e := iN c22 e
        refine a_iload C dX11_sticks_27 4 rfl ?_
        refine a_bipush (v := (10 : Int32)) C dX11_sticks_29 (by decide) ?_
        refine a_icmp_gt (tgt := 45) C dX11_sticks_31 (by decide) (fun c23 => ?_) (fun c23 => ?_)
        · have e := ip c23 e
          refine a_ldc2 C kL_X11_301 dX11_sticks_45 ?_
          obtain ⟨rfl, rfl⟩ := sp2 e
          exact a_lret C q (Nat.le_of_ble_eq_true rfl) (Nat.le_of_ble_eq_true rfl) dX11_sticks_48
        · have e := iN c23 e
          refine a_iload C dX11_sticks_34 5 rfl ?_
          refine a_if_lt (tgt := 45) C dX11_sticks_36 (by decide) (fun c24 => ?_) (fun c24 => ?_)
          · have e := ip c24 e
            refine a_ldc2 C kL_X11_301 dX11_sticks_45 ?_
            obtain ⟨rfl, rfl⟩ := sp2 e
            exact a_lret C q (Nat.le_of_ble_eq_true rfl) (Nat.le_of_ble_eq_true rfl) dX11_sticks_48
          · have e := iN c24 e
            refine a_iload C dX11_sticks_39 5 rfl ?_
            refine a_iconst (v := (1 : Int32)) C dX11_sticks_41 (by decide) ?_
            refine a_icmp_le (tgt := 49) C dX11_sticks_42 (by decide) (fun c25 => ?_) (fun c25 => ?_)
            · have e := ip c25 e
              refine a_aload_n C dX11_sticks_49 rfl 0 rfl ?_
              refine a_iload_n C dX11_sticks_50 rfl 1 rfl ?_
              refine a_iload_n C dX11_sticks_51 rfl 2 rfl ?_
              refine a_iload_n C dX11_sticks_52 rfl 3 rfl ?_
              obtain ⟨u32, ec31, e⟩ := bA_some e
              obtain ⟨fs30, eo29⟩ := isC_some ec31
              obtain ⟨r28, h26, e27, e⟩ := b2_some e
              refine a_callV (as := [.int x1, .int x2, .int x3]) (rest := []) C m_X11_lackOfRoute im_X11_lackOfRoute cb10 se_X11_X11_lackOfRoute_X11_lackOfRoute ml_X11_167 rfl (Nat.le_of_ble_eq_true rfl) (Nat.le_of_ble_eq_true rfl) (Nat.le_of_ble_eq_true rfl) (Nat.le_of_ble_eq_true rfl) (Nat.le_of_ble_eq_true rfl) dX11_sticks_53 eo29 (k_X11_lackOfRoute e27) rfl ?_
              show AW G lo 0 0 56 [(0, .ref (lo + x0)), (1, .int x1), (2, .int x2), (3, .int x3), (4, .int x4), (5, .int x5)] [.int r28] h26
              refine a_istore (lv2 := [(6, .int r28), (0, .ref (lo + x0)), (1, .int x1), (2, .int x2), (3, .int x3), (4, .int x4), (5, .int x5)]) C dX11_sticks_56 (by decide) rfl ?_
              refine a_iload C dX11_sticks_58 0 rfl ?_
              refine a_if_eq (tgt := 71) C dX11_sticks_60 (by decide) (fun c35 => ?_) (fun c35 => ?_)
              · have e := ip c35 e
                refine a_aload_n C dX11_sticks_71 rfl 1 rfl ?_
                refine a_aload_n C dX11_sticks_72 rfl 1 rfl ?_
                obtain ⟨a37, e36, e⟩ := bA_some e
                refine a_getN C cb10 0 (by decide) fl_X11_11 rfl dX11_sticks_73 e36 ?_
                refine a_iload_n C dX11_sticks_76 rfl 2 rfl ?_
                obtain ⟨a39, e38, e⟩ := bA_some e
                refine a_aldn C (by decide) dX11_sticks_77 e38 ?_
                obtain ⟨a41, e40, e⟩ := bA_some e
                refine a_getN C cb7 0 (by decide) fl_X11_103 rfl dX11_sticks_78 e40 ?_
                refine a_iload_n C dX11_sticks_81 rfl 3 rfl ?_
                refine a_iload_n C dX11_sticks_82 rfl 4 rfl ?_
                obtain ⟨u48, ec47, e⟩ := bA_some e
                obtain ⟨fs46, eo45⟩ := isC_some ec47
                obtain ⟨h42, e43, e⟩ := bA_some e
                refine a_callV (as := [.ref (lo + a41), .int x2, .int x3]) (rest := []) C m_X11_foretell im_X11_foretell cb10 se_X11_X11_foretell_X11_foretell ml_X11_237 rfl (Nat.le_of_ble_eq_true rfl) (Nat.le_of_ble_eq_true rfl) (Nat.le_of_ble_eq_true rfl) (Nat.le_of_ble_eq_true rfl) (Nat.le_of_ble_eq_true rfl) dX11_sticks_83 eo45 (k_X11_foretell e43) rfl ?_
                show AW G lo 0 0 86 [(6, .int r28), (0, .ref (lo + x0)), (1, .int x1), (2, .int x2), (3, .int x3), (4, .int x4), (5, .int x5)] [] h42
                refine a_aload_n C dX11_sticks_86 rfl 1 rfl ?_
                refine a_iconst (v := (0 : Int32)) C dX11_sticks_87 (by decide) ?_
                obtain ⟨u57, ec56, e⟩ := bA_some e
                obtain ⟨fs55, eo54⟩ := isC_some ec56
                obtain ⟨r53, h51, e52, e⟩ := b2_some e
                refine a_callV (as := [.int (0 : Int32)]) (rest := []) C m_X11_well im_X11_well cb10 se_X11_X11_well_X11_well ml_X11_84 rfl (Nat.le_of_ble_eq_true rfl) (Nat.le_of_ble_eq_true rfl) (Nat.le_of_ble_eq_true rfl) (Nat.le_of_ble_eq_true rfl) (Nat.le_of_ble_eq_true rfl) dX11_sticks_88 eo54 (k_X11_well e52) rfl ?_
                show AW G lo 0 0 91 [(6, .int r28), (0, .ref (lo + x0)), (1, .int x1), (2, .int x2), (3, .int x3), (4, .int x4), (5, .int x5)] [.int r53] h51
                refine a_pop C dX11_sticks_91 rfl ?_
                refine a_bipush (v := (10 : Int32)) C dX11_sticks_92 (by decide) ?_
                refine a_iload C dX11_sticks_94 5 rfl ?_
                refine a_isub C dX11_sticks_96 ?_
                refine a_bipush (v := (10 : Int32)) C dX11_sticks_97 (by decide) ?_
                obtain ⟨r62, h60, e61, e⟩ := b2_some e
                refine a_callS (as := [.int ((10 : Int32) - x4), .int (10 : Int32)]) (rest := []) C m_X11_commonDivisor sm_X11_commonDivisor ml_X11_303 rfl (Nat.le_of_ble_eq_true rfl) (Nat.le_of_ble_eq_true rfl) (Nat.le_of_ble_eq_true rfl) (Nat.le_of_ble_eq_true rfl) (Nat.le_of_ble_eq_true rfl) dX11_sticks_99 (k_X11_commonDivisor e61) rfl ?_
                show AW G lo 0 0 102 [(6, .int r28), (0, .ref (lo + x0)), (1, .int x1), (2, .int x2), (3, .int x3), (4, .int x4), (5, .int x5)] [.int r62] h60
                refine a_istore (lv2 := [(7, .int r62), (6, .int r28), (0, .ref (lo + x0)), (1, .int x1), (2, .int x2), (3, .int x3), (4, .int x4), (5, .int x5)]) C dX11_sticks_102 (by decide) rfl ?_
                refine a_aload_n C dX11_sticks_104 rfl 2 rfl ?_
                obtain ⟨a69, e68, e⟩ := bA_some e
                refine a_getN C cb10 5 (by decide) fl_X11_39 rfl dX11_sticks_105 e68 ?_
                obtain ⟨g71, e70, e⟩ := bA_some e
                refine a_getI C cb9 10 (by decide) fl_X11_178 rfl dX11_sticks_108 e70 ?_
                refine a_if_ne (tgt := 119) C dX11_sticks_111 (by decide) (fun c72 => ?_) (fun c72 => ?_)
                · have e := iN c72 e
                  refine a_iload C dX11_sticks_119 7 rfl ?_
                  refine a_i2l C dX11_sticks_121 ?_
                  obtain ⟨rfl, rfl⟩ := sp2 e
                  exact a_lret C q (Nat.le_of_ble_eq_true rfl) (Nat.le_of_ble_eq_true rfl) dX11_sticks_122
                · have e := ip c72 e
                  refine a_iload C dX11_sticks_114 0 rfl ?_
                  refine a_if_ne (tgt := 123) C dX11_sticks_116 (by decide) (fun c73 => ?_) (fun c73 => ?_)
                  · have e := iN c73 e
                    refine a_iload C dX11_sticks_123 7 rfl ?_
                    obtain ⟨j75, eb77, e⟩ := bA_some e
                    have jj76 : AW G lo 0 0 144 [(0, .ref (lo + x0)), (1, .int x1), (2, .int x2), (3, .int x3), (4, .int x4), (5, .int x5), (6, .int r28), (7, .int r62)] [.int j75] h60 := by
                      refine a_aload_n C dX11_sticks_144 rfl 0 rfl ?_
                      obtain ⟨a83, e82, e⟩ := bA_some e
                      refine a_getN C cb10 5 (by decide) fl_X11_39 rfl dX11_sticks_145 e82 ?_
                      obtain ⟨g85, e84, e⟩ := bA_some e
                      refine a_getI C cb9 3 (by decide) fl_X11_249 rfl dX11_sticks_148 e84 ?_
                      obtain ⟨r88, h86, e87, e⟩ := b2_some e
                      refine a_callS (as := [.int j75, .int g85]) (rest := []) C m_X11_power sm_X11_power ml_X11_306 rfl (Nat.le_of_ble_eq_true rfl) (Nat.le_of_ble_eq_true rfl) (Nat.le_of_ble_eq_true rfl) (Nat.le_of_ble_eq_true rfl) (Nat.le_of_ble_eq_true rfl) dX11_sticks_151 (k_X11_power e87) rfl ?_
                      show AW G lo 0 0 154 [(0, .ref (lo + x0)), (1, .int x1), (2, .int x2), (3, .int x3), (4, .int x4), (5, .int x5), (6, .int r28), (7, .int r62)] [.long r88] h86
                      obtain ⟨rfl, rfl⟩ := sp2 e
                      exact a_lret C q (Nat.le_of_ble_eq_true rfl) (Nat.le_of_ble_eq_true rfl) dX11_sticks_154
                    have e := eb77
                    refine a_if_ne (tgt := 139) C dX11_sticks_125 (by decide) (fun c74 => ?_) (fun c74 => ?_)
                    · have e := iN c74 e
                      refine a_bipush (v := (10 : Int32)) C dX11_sticks_139 (by decide) ?_
                      refine a_iload C dX11_sticks_141 0 rfl ?_
                      obtain ⟨u79, ez78, e⟩ := bA_some e
                      refine a_idiv C dX11_sticks_143 (nzI_some ez78) ?_
                      obtain rfl := sp1 e
                      exact a_widen (Nat.le_of_ble_eq_true rfl) (Nat.le_of_ble_eq_true rfl) (a_sub [2, 3, 4, 5, 6, 7, 1, 0] rfl jj76)
                    · have e := ip c74 e
                      refine a_bipush (v := (10 : Int32)) C dX11_sticks_128 (by decide) ?_
                      refine a_iload C dX11_sticks_130 6 rfl ?_
                      refine a_isub C dX11_sticks_132 ?_
                      refine a_iload C dX11_sticks_133 0 rfl ?_
                      obtain ⟨u81, ez80, e⟩ := bA_some e
                      refine a_idiv C dX11_sticks_135 (nzI_some ez80) ?_
                      refine a_goto (tgt := 144) C dX11_sticks_136 (by decide) ?_
                      obtain rfl := sp1 e
                      exact a_widen (Nat.le_of_ble_eq_true rfl) (Nat.le_of_ble_eq_true rfl) (a_sub [2, 3, 4, 5, 6, 7, 1, 0] rfl jj76)
                  · have e := ip c73 e
                    refine a_iload C dX11_sticks_119 7 rfl ?_
                    refine a_i2l C dX11_sticks_121 ?_
                    obtain ⟨rfl, rfl⟩ := sp2 e
                    exact a_lret C q (Nat.le_of_ble_eq_true rfl) (Nat.le_of_ble_eq_true rfl) dX11_sticks_122
              · have e := iN c35 e
                refine a_aload_n C dX11_sticks_63 rfl 1 rfl ?_
                refine a_iload C dX11_sticks_64 0 rfl ?_
                obtain ⟨u100, ec99, e⟩ := bA_some e
                obtain ⟨fs98, eo97⟩ := isC_some ec99
                obtain ⟨r96, h94, e95, e⟩ := b2_some e
                refine a_callV (as := [.int r28]) (rest := []) C m_X11_found im_X11_found cb10 se_X11_X11_found_X11_found ml_X11_76 rfl (Nat.le_of_ble_eq_true rfl) (Nat.le_of_ble_eq_true rfl) (Nat.le_of_ble_eq_true rfl) (Nat.le_of_ble_eq_true rfl) (Nat.le_of_ble_eq_true rfl) dX11_sticks_66 eo97 (k_X11_found e95) rfl ?_
                show AW G lo 0 0 69 [(6, .int r28), (0, .ref (lo + x0)), (1, .int x1), (2, .int x2), (3, .int x3), (4, .int x4), (5, .int x5)] [.int r96] h94
                refine a_i2l C dX11_sticks_69 ?_
                obtain ⟨rfl, rfl⟩ := sp2 e
                exact a_lret C q (Nat.le_of_ble_eq_true rfl) (Nat.le_of_ble_eq_true rfl) dX11_sticks_70
            · have e := iN c25 e
              refine a_ldc2 C kL_X11_301 dX11_sticks_45 ?_
              obtain ⟨rfl, rfl⟩ := sp2 e
              exact a_lret C q (Nat.le_of_ble_eq_true rfl) (Nat.le_of_ble_eq_true rfl) dX11_sticks_48
  · have e := ip c12 e
    refine a_ldc2 C kL_X11_299 dX11_sticks_10 ?_
    obtain ⟨rfl, rfl⟩ := sp2 e
    exact a_lret C q (Nat.le_of_ble_eq_true rfl) (Nat.le_of_ble_eq_true rfl) dX11_sticks_13

set_option maxRecDepth 100000 in
def f_X11_drawn_L71 {β : Type} (k : Int32 → Int32 → Int64 → Int32 → Hp → Option (β)) (x0 : Nat) (x1 : Int32) (x2 : Int32) (x3 : Int32) : Nat → Hp → Int32 → Int32 → Int64 → Int32 → Option (β)
  | 0, _, _, _, _, _ => none
  | fuel + 1, h, x4, x5, x6, x8 => (if x1 ≤ x8 then k x4 x5 x6 x8 h else bA (isC h x0 10) fun u39 => bA (f_X11_goDrawn h x0 ((x6 * (16807 : Int64)) - (x6 * (16807 : Int64)) / (2147483647 : Int64) * (2147483647 : Int64))) fun h33 => bA (gN h33 x0 10 5) fun a43 => bA (gI h33 a43 9 10) fun g45 => b2 (if g45 = 0 then bA (gN h33 x0 10 5) fun a52 => bA (gI h33 a52 9 9) fun g54 => some ((x4 + g54), (x5 + (1 : Int32))) else some (x4, x5)) fun j47 j48 => f_X11_drawn_L71 k x0 x1 x2 x3 fuel h33 j47 j48 ((x6 * (16807 : Int64)) - (x6 * (16807 : Int64)) / (2147483647 : Int64) * (2147483647 : Int64)) (x8 + (1 : Int32)))

set_option maxRecDepth 100000 in
def f_X11_drawn (h : Hp) (x0 : Nat) (x1 : Int32) (x2 : Int32) (x3 : Int32) : Option (Int32 × Hp) := bA (gN h x0 10 3) fun a2 => bA (isC h a2 2) fun u9 => b2 (f_X3_stands h a2 ) fun r5 h3 => (if r5 = 0 then some ((-1000002 : Int32), h3) else (if x1 < 0 then some ((-1000001 : Int32), h3) else (if (60 : Int32) < x1 then some ((-1000001 : Int32), h3) else (if x2 < (1 : Int32) then some ((-1000001 : Int32), h3) else (if (999999 : Int32) < x2 then some ((-1000001 : Int32), h3) else (if x3 < 0 then some ((-1000001 : Int32), h3) else (if x3 ≤ (1 : Int32) then bA (gN h3 x0 10 6) fun a20 => bA (gN h3 x0 10 3) fun a22 => bA (isC h3 a20 2) fun u29 => bA (f_X3_become h3 a20 a22) fun h23 => f_X11_drawn_L71 (fun y56 y57 y58 y59 h55 => bA (if x3 = 0 then some y56 else some y57) fun j61 => some (j61, h55)) x0 x1 x2 x3 2000 h23 (0 : Int32) (0 : Int32) x2.toInt64 (0 : Int32) else some ((-1000001 : Int32), h3))))))))

theorem m_X11_drawn : MI yX11_drawn cX11_drawn 9 (some .int) 3 := ⟨co_X11_drawn, ini_X11, by decide, by decide +kernel⟩
set_option maxRecDepth 100000 in
set_option maxHeartbeats 4000000 in
theorem w_X11_drawn_L71 {G : Gm} {lo : Nat} {ce sl : Nat} (C : CX G lo cX11_drawn RX11 (some .int) ({ frames := 5, cells := 0, slots := 0, locals := 120 } : Room) 9) {β : Type} {res : β} {k : Int32 → Int32 → Int64 → Int32 → Hp → Option (β)} {x0 : Nat} {x1 : Int32} {x2 : Int32} {x3 : Int32} (hk : ∀ (h : Hp) (x4 : Int32) (x5 : Int32) (x6 : Int64) (x8 : Int32), k x4 x5 x6 x8 h = some res → AW G lo ce sl 126 [(0, .ref (lo + x0)), (1, .int x1), (2, .int x2), (3, .int x3), (4, .int x4), (5, .int x5), (6, .long x6), (8, .int x8)] [] h) (hce : ce ≤ 0) (hsl : sl ≤ 0) : ∀ (fuel : Nat) (h : Hp) (x4 : Int32) (x5 : Int32) (x6 : Int64) (x8 : Int32), f_X11_drawn_L71 k x0 x1 x2 x3 fuel h x4 x5 x6 x8 = some res → AW G lo ce sl 71 [(0, .ref (lo + x0)), (1, .int x1), (2, .int x2), (3, .int x3), (4, .int x4), (5, .int x5), (6, .long x6), (8, .int x8)] [] h := by
  intro fuel
  induction fuel with
  | zero =>
    intro h x4 x5 x6 x8 e
    cases (show (none : Option (β)) = some res from e)
  | succ fuel ih =>
    intro h x4 x5 x6 x8 e
    rw [f_X11_drawn_L71] at e
    refine a_iload C dX11_drawn_71 7 rfl ?_
    refine a_iload_n C dX11_drawn_73 rfl 1 rfl ?_
    refine a_icmp_ge (tgt := 126) C dX11_drawn_74 (by decide) (fun c32 => ?_) (fun c32 => ?_)
    · have e := ip c32 e
      exact a_sub [0, 1, 2, 3, 4, 5, 6, 7] rfl (hk _ _ _ _ _ e)
    · have e := iN c32 e
      refine a_lload C dX11_drawn_77 6 rfl ?_
      refine a_ldc2 C kL_X11_311 dX11_drawn_79 ?_
      refine a_lmul C dX11_drawn_82 ?_
      refine a_ldc2 C kL_X11_313 dX11_drawn_83 ?_
      refine a_lrem C dX11_drawn_86 (by decide) ?_
      refine a_lstore (lv2 := [(6, .long ((x6 * (16807 : Int64)) - (x6 * (16807 : Int64)) / (2147483647 : Int64) * (2147483647 : Int64))), (0, .ref (lo + x0)), (1, .int x1), (2, .int x2), (3, .int x3), (4, .int x4), (5, .int x5), (8, .int x8)]) C dX11_drawn_87 (by decide) rfl ?_
      refine a_aload_n C dX11_drawn_89 rfl 1 rfl ?_
      refine a_lload C dX11_drawn_90 0 rfl ?_
      obtain ⟨u39, ec38, e⟩ := bA_some e
      obtain ⟨fs37, eo36⟩ := isC_some ec38
      obtain ⟨h33, e34, e⟩ := bA_some e
      refine a_callV (as := [.long ((x6 * (16807 : Int64)) - (x6 * (16807 : Int64)) / (2147483647 : Int64) * (2147483647 : Int64))]) (rest := []) C m_X11_goDrawn im_X11_goDrawn cb10 se_X11_X11_goDrawn_X11_goDrawn ml_X11_315 rfl (Nat.le_of_ble_eq_true rfl) (Nat.le_of_ble_eq_true rfl) (by exact hce) (by exact hsl) (Nat.le_of_ble_eq_true rfl) dX11_drawn_92 eo36 (k_X11_goDrawn e34) rfl ?_
      show AW G lo ce sl 95 [(6, .long ((x6 * (16807 : Int64)) - (x6 * (16807 : Int64)) / (2147483647 : Int64) * (2147483647 : Int64))), (0, .ref (lo + x0)), (1, .int x1), (2, .int x2), (3, .int x3), (4, .int x4), (5, .int x5), (8, .int x8)] [] h33
      refine a_aload_n C dX11_drawn_95 rfl 1 rfl ?_
      obtain ⟨a43, e42, e⟩ := bA_some e
      refine a_getN C cb10 5 (by decide) fl_X11_39 rfl dX11_drawn_96 e42 ?_
      obtain ⟨g45, e44, e⟩ := bA_some e
      refine a_getI C cb9 10 (by decide) fl_X11_178 rfl dX11_drawn_99 e44 ?_
      obtain ⟨j47, j48, eb50, e⟩ := b2_some e
      have jj49 : AW G lo ce sl 120 [(0, .ref (lo + x0)), (1, .int x1), (2, .int x2), (3, .int x3), (4, .int j47), (5, .int j48), (6, .long ((x6 * (16807 : Int64)) - (x6 * (16807 : Int64)) / (2147483647 : Int64) * (2147483647 : Int64))), (8, .int x8)] [] h33 := by
        refine a_iinc (v := x8 + (1 : Int32)) (lv2 := [(8, .int (x8 + (1 : Int32))), (0, .ref (lo + x0)), (1, .int x1), (2, .int x2), (3, .int x3), (4, .int j47), (5, .int j48), (6, .long ((x6 * (16807 : Int64)) - (x6 * (16807 : Int64)) / (2147483647 : Int64) * (2147483647 : Int64)))]) C dX11_drawn_120 7 rfl rfl (by decide) rfl ?_
        refine a_goto (tgt := 71) C dX11_drawn_123 (by decide) ?_
        exact a_sub [1, 2, 3, 4, 5, 6, 7, 0] rfl (ih _ _ _ _ _ e)
      have e := eb50
      refine a_if_ne (tgt := 120) C dX11_drawn_102 (by decide) (fun c46 => ?_) (fun c46 => ?_)
      · have e := iN c46 e
        obtain ⟨rfl, rfl⟩ := sp2 e
        exact a_widen (Nat.le_refl _) (Nat.le_refl _) (a_sub [1, 2, 3, 4, 5, 6, 0, 7] rfl jj49)
      · have e := ip c46 e
        refine a_iload C dX11_drawn_105 5 rfl ?_
        refine a_aload_n C dX11_drawn_107 rfl 1 rfl ?_
        obtain ⟨a52, e51, e⟩ := bA_some e
        refine a_getN C cb10 5 (by decide) fl_X11_39 rfl dX11_drawn_108 e51 ?_
        obtain ⟨g54, e53, e⟩ := bA_some e
        refine a_getI C cb9 9 (by decide) fl_X11_181 rfl dX11_drawn_111 e53 ?_
        refine a_iadd C dX11_drawn_114 ?_
        refine a_istore (lv2 := [(4, .int (x4 + g54)), (6, .long ((x6 * (16807 : Int64)) - (x6 * (16807 : Int64)) / (2147483647 : Int64) * (2147483647 : Int64))), (0, .ref (lo + x0)), (1, .int x1), (2, .int x2), (3, .int x3), (5, .int x5), (8, .int x8)]) C dX11_drawn_115 (by decide) rfl ?_
        refine a_iinc (v := x5 + (1 : Int32)) (lv2 := [(5, .int (x5 + (1 : Int32))), (4, .int (x4 + g54)), (6, .long ((x6 * (16807 : Int64)) - (x6 * (16807 : Int64)) / (2147483647 : Int64) * (2147483647 : Int64))), (0, .ref (lo + x0)), (1, .int x1), (2, .int x2), (3, .int x3), (8, .int x8)]) C dX11_drawn_117 6 rfl rfl (by decide) rfl ?_
        obtain ⟨rfl, rfl⟩ := sp2 e
        exact a_widen (Nat.le_refl _) (Nat.le_refl _) (a_sub [3, 4, 5, 6, 1, 0, 2, 7] rfl jj49)
set_option maxRecDepth 100000 in
set_option maxHeartbeats 4000000 in
theorem k_X11_drawn {lo : Nat} {h : Hp} {x0 : Nat} {x1 : Int32} {x2 : Int32} {x3 : Int32} {r : Int32} {h' : Hp} (e : f_X11_drawn h x0 x1 x2 x3 = some (r, h')) : ∀ l d, AC l d lo yX11_drawn cX11_drawn 9 (some .int) ({ frames := 5, cells := 0, slots := 0, locals := 120 } : Room) [.ref (lo + x0), .int x1, .int x2, .int x3] h (some (.int r)) h' := by
  intro l d
  refine AC_of (by decide) (Nat.le_of_ble_eq_true rfl) ?_
  intro G C _ _ q
  unfold f_X11_drawn at e
  show AW G lo 0 0 0 [(0, .ref (lo + x0)), (1, .int x1), (2, .int x2), (3, .int x3)] [] h
  refine a_aload_n C dX11_drawn_0 rfl 0 rfl ?_
  obtain ⟨a2, e1, e⟩ := bA_some e
  refine a_getN C cb10 3 (by decide) fl_X11_33 rfl dX11_drawn_1 e1 ?_
  obtain ⟨u9, ec8, e⟩ := bA_some e
  obtain ⟨fs7, eo6⟩ := isC_some ec8
  obtain ⟨r5, h3, e4, e⟩ := b2_some e
  refine a_callV (as := []) (rest := []) C m_X3_stands im_X3_stands cb2 se_X3_X3_stands_X3_stands ml_X11_161 rfl (Nat.le_of_ble_eq_true rfl) (Nat.le_of_ble_eq_true rfl) (Nat.le_of_ble_eq_true rfl) (Nat.le_of_ble_eq_true rfl) (Nat.le_of_ble_eq_true rfl) dX11_drawn_4 eo6 (k_X3_stands e4) rfl ?_
  show AW G lo 0 0 7 [(0, .ref (lo + x0)), (1, .int x1), (2, .int x2), (3, .int x3)] [.int r5] h3
  refine a_if_ne (tgt := 13) C dX11_drawn_7 (by decide) (fun c12 => ?_) (fun c12 => ?_)
  · have e := iN c12 e
    refine a_iload_n C dX11_drawn_13 rfl 1 rfl ?_
    refine a_if_lt (tgt := 44) C dX11_drawn_14 (by decide) (fun c13 => ?_) (fun c13 => ?_)
    · have e := ip c13 e
      refine a_ldc C ko_X11_75 dX11_drawn_44 ?_
      obtain ⟨rfl, rfl⟩ := sp2 e
      exact a_iret C q (Nat.le_of_ble_eq_true rfl) (Nat.le_of_ble_eq_true rfl) dX11_drawn_46
    · have e := iN c13 e
      refine a_iload_n C dX11_drawn_17 rfl 1 rfl ?_
      refine a_bipush (v := (60 : Int32)) C dX11_drawn_18 (by decide) ?_
      refine a_icmp_gt (tgt := 44) C dX11_drawn_20 (by decide) (fun c14 => ?_) (fun c14 => ?_)
      · have e := ip c14 e
        refine a_ldc C ko_X11_75 dX11_drawn_44 ?_
        obtain ⟨rfl, rfl⟩ := sp2 e
        exact a_iret C q (Nat.le_of_ble_eq_true rfl) (Nat.le_of_ble_eq_true rfl) dX11_drawn_46
      · have e := iN c14 e
        refine a_iload_n C dX11_drawn_23 rfl 2 rfl ?_
        refine a_iconst (v := (1 : Int32)) C dX11_drawn_24 (by decide) ?_
        refine a_icmp_lt (tgt := 44) C dX11_drawn_25 (by decide) (fun c15 => ?_) (fun c15 => ?_)
        · have e := ip c15 e
          refine a_ldc C ko_X11_75 dX11_drawn_44 ?_
          obtain ⟨rfl, rfl⟩ := sp2 e
          exact a_iret C q (Nat.le_of_ble_eq_true rfl) (Nat.le_of_ble_eq_true rfl) dX11_drawn_46
        · have e := iN c15 e
          refine a_iload_n C dX11_drawn_28 rfl 2 rfl ?_
          refine a_ldc_w C ko_X11_310 dX11_drawn_29 ?_
          refine a_icmp_gt (tgt := 44) C dX11_drawn_32 (by decide) (fun c16 => ?_) (fun c16 => ?_)
          · have e := ip c16 e
            refine a_ldc C ko_X11_75 dX11_drawn_44 ?_
            obtain ⟨rfl, rfl⟩ := sp2 e
            exact a_iret C q (Nat.le_of_ble_eq_true rfl) (Nat.le_of_ble_eq_true rfl) dX11_drawn_46
          · have e := iN c16 e
            refine a_iload_n C dX11_drawn_35 rfl 3 rfl ?_
            refine a_if_lt (tgt := 44) C dX11_drawn_36 (by decide) (fun c17 => ?_) (fun c17 => ?_)
            · have e := ip c17 e
              refine a_ldc C ko_X11_75 dX11_drawn_44 ?_
              obtain ⟨rfl, rfl⟩ := sp2 e
              exact a_iret C q (Nat.le_of_ble_eq_true rfl) (Nat.le_of_ble_eq_true rfl) dX11_drawn_46
            · have e := iN c17 e
              refine a_iload_n C dX11_drawn_39 rfl 3 rfl ?_
              refine a_iconst (v := (1 : Int32)) C dX11_drawn_40 (by decide) ?_
              refine a_icmp_le (tgt := 47) C dX11_drawn_41 (by decide) (fun c18 => ?_) (fun c18 => ?_)
              · have e := ip c18 e
                refine a_aload_n C dX11_drawn_47 rfl 0 rfl ?_
                obtain ⟨a20, e19, e⟩ := bA_some e
                refine a_getN C cb10 6 (by decide) fl_X11_42 rfl dX11_drawn_48 e19 ?_
                refine a_aload_n C dX11_drawn_51 rfl 0 rfl ?_
                obtain ⟨a22, e21, e⟩ := bA_some e
                refine a_getN C cb10 3 (by decide) fl_X11_33 rfl dX11_drawn_52 e21 ?_
                obtain ⟨u29, ec28, e⟩ := bA_some e
                obtain ⟨fs27, eo26⟩ := isC_some ec28
                obtain ⟨h23, e24, e⟩ := bA_some e
                refine a_callV (as := [.ref (lo + a22)]) (rest := []) C m_X3_become im_X3_become cb2 se_X3_X3_become_X3_become ml_X11_141 rfl (Nat.le_of_ble_eq_true rfl) (Nat.le_of_ble_eq_true rfl) (Nat.le_of_ble_eq_true rfl) (Nat.le_of_ble_eq_true rfl) (Nat.le_of_ble_eq_true rfl) dX11_drawn_55 eo26 (k_X3_become e24) rfl ?_
                show AW G lo 0 0 58 [(0, .ref (lo + x0)), (1, .int x1), (2, .int x2), (3, .int x3)] [] h23
                refine a_iconst (v := (0 : Int32)) C dX11_drawn_58 (by decide) ?_
                refine a_istore (lv2 := [(4, .int (0 : Int32)), (0, .ref (lo + x0)), (1, .int x1), (2, .int x2), (3, .int x3)]) C dX11_drawn_59 (by decide) rfl ?_
                refine a_iconst (v := (0 : Int32)) C dX11_drawn_61 (by decide) ?_
                refine a_istore (lv2 := [(5, .int (0 : Int32)), (4, .int (0 : Int32)), (0, .ref (lo + x0)), (1, .int x1), (2, .int x2), (3, .int x3)]) C dX11_drawn_62 (by decide) rfl ?_
                refine a_iload_n C dX11_drawn_64 rfl 4 rfl ?_
                refine a_i2l C dX11_drawn_65 ?_
                refine a_lstore (lv2 := [(6, .long x2.toInt64), (5, .int (0 : Int32)), (4, .int (0 : Int32)), (0, .ref (lo + x0)), (1, .int x1), (2, .int x2), (3, .int x3)]) C dX11_drawn_66 (by decide) rfl ?_
                refine a_iconst (v := (0 : Int32)) C dX11_drawn_68 (by decide) ?_
                refine a_istore (lv2 := [(8, .int (0 : Int32)), (6, .long x2.toInt64), (5, .int (0 : Int32)), (4, .int (0 : Int32)), (0, .ref (lo + x0)), (1, .int x1), (2, .int x2), (3, .int x3)]) C dX11_drawn_69 (by decide) rfl ?_
                refine a_sub [4, 5, 6, 7, 3, 2, 1, 0] rfl (w_X11_drawn_L71 C ?_ (Nat.le_of_ble_eq_true rfl) (Nat.le_of_ble_eq_true rfl) 2000 _ _ _ _ _ e)
                intro h55 y56 y57 y58 y59 e
                show AW G lo 0 0 126 [(0, .ref (lo + x0)), (1, .int x1), (2, .int x2), (3, .int x3), (4, .int y56), (5, .int y57), (6, .long y58), (8, .int y59)] [] h55
                refine a_iload_n C dX11_drawn_126 rfl 3 rfl ?_
                obtain ⟨j61, eb63, e⟩ := bA_some e
                have jj62 : AW G lo 0 0 137 [(0, .ref (lo + x0)), (1, .int x1), (2, .int x2), (3, .int x3), (4, .int y56), (5, .int y57), (6, .long y58), (8, .int y59)] [.int j61] h55 := by
                  obtain ⟨rfl, rfl⟩ := sp2 e
                  exact a_iret C q (Nat.le_of_ble_eq_true rfl) (Nat.le_of_ble_eq_true rfl) dX11_drawn_137
                have e := eb63
                refine a_if_ne (tgt := 135) C dX11_drawn_127 (by decide) (fun c60 => ?_) (fun c60 => ?_)
                · have e := iN c60 e
                  refine a_iload C dX11_drawn_135 5 rfl ?_
                  obtain rfl := sp1 e
                  exact a_widen (Nat.le_of_ble_eq_true rfl) (Nat.le_of_ble_eq_true rfl) (a_sub [0, 1, 2, 3, 4, 5, 6, 7] rfl jj62)
                · have e := ip c60 e
                  refine a_iload C dX11_drawn_130 4 rfl ?_
                  refine a_goto (tgt := 137) C dX11_drawn_132 (by decide) ?_
                  obtain rfl := sp1 e
                  exact a_widen (Nat.le_of_ble_eq_true rfl) (Nat.le_of_ble_eq_true rfl) (a_sub [0, 1, 2, 3, 4, 5, 6, 7] rfl jj62)
              · have e := iN c18 e
                refine a_ldc C ko_X11_75 dX11_drawn_44 ?_
                obtain ⟨rfl, rfl⟩ := sp2 e
                exact a_iret C q (Nat.le_of_ble_eq_true rfl) (Nat.le_of_ble_eq_true rfl) dX11_drawn_46
  · have e := ip c12 e
    refine a_ldc C ko_X11_157 dX11_drawn_10 ?_
    obtain ⟨rfl, rfl⟩ := sp2 e
    exact a_iret C q (Nat.le_of_ble_eq_true rfl) (Nat.le_of_ble_eq_true rfl) dX11_drawn_12

set_option maxRecDepth 100000 in
def f_X11_image (h : Hp) (x0 : Nat) (x1 : Int32) : Option (Int32 × Hp) := (if x1 < 0 then some ((-1000001 : Int32), h) else (if x1 < (2 : Int32) then bA (gN h x0 10 3) fun a4 => bA (isC h a4 2) fun u11 => b2 (f_X3_stands h a4 ) fun r7 h5 => (if r7 = 0 then some ((-1000002 : Int32), h5) else bA (gN h5 x0 10 8) fun a16 => bA (aldn h5 a16 3 x1) fun a18 => bA (gN h5 x0 10 3) fun a20 => bA (isC h5 a18 2) fun u27 => bA (f_X3_become h5 a18 a20) fun h21 => some ((1 : Int32), h21)) else some ((-1000001 : Int32), h)))

theorem m_X11_image : MI yX11_image cX11_image 2 (some .int) 1 := ⟨co_X11_image, ini_X11, by decide, by decide +kernel⟩
set_option maxRecDepth 100000 in
set_option maxHeartbeats 4000000 in
theorem k_X11_image {lo : Nat} {h : Hp} {x0 : Nat} {x1 : Int32} {r : Int32} {h' : Hp} (e : f_X11_image h x0 x1 = some (r, h')) : ∀ l d, AC l d lo yX11_image cX11_image 2 (some .int) ({ frames := 2, cells := 0, slots := 0, locals := 102 } : Room) [.ref (lo + x0), .int x1] h (some (.int r)) h' := by
  intro l d
  refine AC_of (by decide) (Nat.le_of_ble_eq_true rfl) ?_
  intro G C _ _ q
  unfold f_X11_image at e
  show AW G lo 0 0 0 [(0, .ref (lo + x0)), (1, .int x1)] [] h
  refine a_iload_n C dX11_image_0 rfl 1 rfl ?_
  refine a_if_lt (tgt := 9) C dX11_image_1 (by decide) (fun c1 => ?_) (fun c1 => ?_)
  · have e := ip c1 e
    refine a_ldc C ko_X11_75 dX11_image_9 ?_
    obtain ⟨rfl, rfl⟩ := sp2 e
    exact a_iret C q (Nat.le_of_ble_eq_true rfl) (Nat.le_of_ble_eq_true rfl) dX11_image_11
  · have e := iN c1 e
    refine a_iload_n C dX11_image_4 rfl 1 rfl ?_
    refine a_iconst (v := (2 : Int32)) C dX11_image_5 (by decide) ?_
    refine a_icmp_lt (tgt := 12) C dX11_image_6 (by decide) (fun c2 => ?_) (fun c2 => ?_)
    · have e := ip c2 e
      refine a_aload_n C dX11_image_12 rfl 0 rfl ?_
      obtain ⟨a4, e3, e⟩ := bA_some e
      refine a_getN C cb10 3 (by decide) fl_X11_33 rfl dX11_image_13 e3 ?_
      obtain ⟨u11, ec10, e⟩ := bA_some e
      obtain ⟨fs9, eo8⟩ := isC_some ec10
      obtain ⟨r7, h5, e6, e⟩ := b2_some e
      refine a_callV (as := []) (rest := []) C m_X3_stands im_X3_stands cb2 se_X3_X3_stands_X3_stands ml_X11_161 rfl (Nat.le_of_ble_eq_true rfl) (Nat.le_of_ble_eq_true rfl) (Nat.le_of_ble_eq_true rfl) (Nat.le_of_ble_eq_true rfl) (Nat.le_of_ble_eq_true rfl) dX11_image_16 eo8 (k_X3_stands e6) rfl ?_
      show AW G lo 0 0 19 [(0, .ref (lo + x0)), (1, .int x1)] [.int r7] h5
      refine a_if_ne (tgt := 25) C dX11_image_19 (by decide) (fun c14 => ?_) (fun c14 => ?_)
      · have e := iN c14 e
        refine a_aload_n C dX11_image_25 rfl 0 rfl ?_
        obtain ⟨a16, e15, e⟩ := bA_some e
        refine a_getN C cb10 8 (by decide) fl_X11_51 rfl dX11_image_26 e15 ?_
        refine a_iload_n C dX11_image_29 rfl 1 rfl ?_
        obtain ⟨a18, e17, e⟩ := bA_some e
        refine a_aldn C (by decide) dX11_image_30 e17 ?_
        refine a_aload_n C dX11_image_31 rfl 0 rfl ?_
        obtain ⟨a20, e19, e⟩ := bA_some e
        refine a_getN C cb10 3 (by decide) fl_X11_33 rfl dX11_image_32 e19 ?_
        obtain ⟨u27, ec26, e⟩ := bA_some e
        obtain ⟨fs25, eo24⟩ := isC_some ec26
        obtain ⟨h21, e22, e⟩ := bA_some e
        refine a_callV (as := [.ref (lo + a20)]) (rest := []) C m_X3_become im_X3_become cb2 se_X3_X3_become_X3_become ml_X11_141 rfl (Nat.le_of_ble_eq_true rfl) (Nat.le_of_ble_eq_true rfl) (Nat.le_of_ble_eq_true rfl) (Nat.le_of_ble_eq_true rfl) (Nat.le_of_ble_eq_true rfl) dX11_image_35 eo24 (k_X3_become e22) rfl ?_
        show AW G lo 0 0 38 [(0, .ref (lo + x0)), (1, .int x1)] [] h21
        refine a_iconst (v := (1 : Int32)) C dX11_image_38 (by decide) ?_
        obtain ⟨rfl, rfl⟩ := sp2 e
        exact a_iret C q (Nat.le_of_ble_eq_true rfl) (Nat.le_of_ble_eq_true rfl) dX11_image_39
      · have e := ip c14 e
        refine a_ldc C ko_X11_157 dX11_image_22 ?_
        obtain ⟨rfl, rfl⟩ := sp2 e
        exact a_iret C q (Nat.le_of_ble_eq_true rfl) (Nat.le_of_ble_eq_true rfl) dX11_image_24
    · have e := iN c2 e
      refine a_ldc C ko_X11_75 dX11_image_9 ?_
      obtain ⟨rfl, rfl⟩ := sp2 e
      exact a_iret C q (Nat.le_of_ble_eq_true rfl) (Nat.le_of_ble_eq_true rfl) dX11_image_11

set_option maxRecDepth 100000 in
def f_X11_restore (h : Hp) (x0 : Nat) (x1 : Int32) : Option (Int32 × Hp) := (if x1 < 0 then some ((-1000001 : Int32), h) else (if x1 < (2 : Int32) then bA (gN h x0 10 8) fun a4 => bA (aldn h a4 3 x1) fun a6 => bA (isC h a6 2) fun u13 => b2 (f_X3_stands h a6 ) fun r9 h7 => (if r9 = 0 then some ((-1000002 : Int32), h7) else bA (gN h7 x0 10 3) fun a18 => bA (gN h7 x0 10 8) fun a20 => bA (aldn h7 a20 3 x1) fun a22 => bA (isC h7 a18 2) fun u29 => bA (f_X3_become h7 a18 a22) fun h23 => bA (isC h23 x0 10) fun u38 => bA (f_X11_forgetActs h23 x0 ) fun h32 => some ((1 : Int32), h32)) else some ((-1000001 : Int32), h)))

theorem m_X11_restore : MI yX11_restore cX11_restore 2 (some .int) 1 := ⟨co_X11_restore, ini_X11, by decide, by decide +kernel⟩
set_option maxRecDepth 100000 in
set_option maxHeartbeats 4000000 in
theorem k_X11_restore {lo : Nat} {h : Hp} {x0 : Nat} {x1 : Int32} {r : Int32} {h' : Hp} (e : f_X11_restore h x0 x1 = some (r, h')) : ∀ l d, AC l d lo yX11_restore cX11_restore 2 (some .int) ({ frames := 2, cells := 0, slots := 0, locals := 102 } : Room) [.ref (lo + x0), .int x1] h (some (.int r)) h' := by
  intro l d
  refine AC_of (by decide) (Nat.le_of_ble_eq_true rfl) ?_
  intro G C _ _ q
  unfold f_X11_restore at e
  show AW G lo 0 0 0 [(0, .ref (lo + x0)), (1, .int x1)] [] h
  refine a_iload_n C dX11_restore_0 rfl 1 rfl ?_
  refine a_if_lt (tgt := 9) C dX11_restore_1 (by decide) (fun c1 => ?_) (fun c1 => ?_)
  · have e := ip c1 e
    refine a_ldc C ko_X11_75 dX11_restore_9 ?_
    obtain ⟨rfl, rfl⟩ := sp2 e
    exact a_iret C q (Nat.le_of_ble_eq_true rfl) (Nat.le_of_ble_eq_true rfl) dX11_restore_11
  · have e := iN c1 e
    refine a_iload_n C dX11_restore_4 rfl 1 rfl ?_
    refine a_iconst (v := (2 : Int32)) C dX11_restore_5 (by decide) ?_
    refine a_icmp_lt (tgt := 12) C dX11_restore_6 (by decide) (fun c2 => ?_) (fun c2 => ?_)
    · have e := ip c2 e
      refine a_aload_n C dX11_restore_12 rfl 0 rfl ?_
      obtain ⟨a4, e3, e⟩ := bA_some e
      refine a_getN C cb10 8 (by decide) fl_X11_51 rfl dX11_restore_13 e3 ?_
      refine a_iload_n C dX11_restore_16 rfl 1 rfl ?_
      obtain ⟨a6, e5, e⟩ := bA_some e
      refine a_aldn C (by decide) dX11_restore_17 e5 ?_
      obtain ⟨u13, ec12, e⟩ := bA_some e
      obtain ⟨fs11, eo10⟩ := isC_some ec12
      obtain ⟨r9, h7, e8, e⟩ := b2_some e
      refine a_callV (as := []) (rest := []) C m_X3_stands im_X3_stands cb2 se_X3_X3_stands_X3_stands ml_X11_161 rfl (Nat.le_of_ble_eq_true rfl) (Nat.le_of_ble_eq_true rfl) (Nat.le_of_ble_eq_true rfl) (Nat.le_of_ble_eq_true rfl) (Nat.le_of_ble_eq_true rfl) dX11_restore_18 eo10 (k_X3_stands e8) rfl ?_
      show AW G lo 0 0 21 [(0, .ref (lo + x0)), (1, .int x1)] [.int r9] h7
      refine a_if_ne (tgt := 27) C dX11_restore_21 (by decide) (fun c16 => ?_) (fun c16 => ?_)
      · have e := iN c16 e
        refine a_aload_n C dX11_restore_27 rfl 0 rfl ?_
        obtain ⟨a18, e17, e⟩ := bA_some e
        refine a_getN C cb10 3 (by decide) fl_X11_33 rfl dX11_restore_28 e17 ?_
        refine a_aload_n C dX11_restore_31 rfl 0 rfl ?_
        obtain ⟨a20, e19, e⟩ := bA_some e
        refine a_getN C cb10 8 (by decide) fl_X11_51 rfl dX11_restore_32 e19 ?_
        refine a_iload_n C dX11_restore_35 rfl 1 rfl ?_
        obtain ⟨a22, e21, e⟩ := bA_some e
        refine a_aldn C (by decide) dX11_restore_36 e21 ?_
        obtain ⟨u29, ec28, e⟩ := bA_some e
        obtain ⟨fs27, eo26⟩ := isC_some ec28
        obtain ⟨h23, e24, e⟩ := bA_some e
        refine a_callV (as := [.ref (lo + a22)]) (rest := []) C m_X3_become im_X3_become cb2 se_X3_X3_become_X3_become ml_X11_141 rfl (Nat.le_of_ble_eq_true rfl) (Nat.le_of_ble_eq_true rfl) (Nat.le_of_ble_eq_true rfl) (Nat.le_of_ble_eq_true rfl) (Nat.le_of_ble_eq_true rfl) dX11_restore_37 eo26 (k_X3_become e24) rfl ?_
        show AW G lo 0 0 40 [(0, .ref (lo + x0)), (1, .int x1)] [] h23
        refine a_aload_n C dX11_restore_40 rfl 0 rfl ?_
        obtain ⟨u38, ec37, e⟩ := bA_some e
        obtain ⟨fs36, eo35⟩ := isC_some ec37
        obtain ⟨h32, e33, e⟩ := bA_some e
        refine a_callV (as := []) (rest := []) C m_X11_forgetActs im_X11_forgetActs cb10 se_X11_X11_forgetActs_X11_forgetActs ml_X11_145 rfl (Nat.le_of_ble_eq_true rfl) (Nat.le_of_ble_eq_true rfl) (Nat.le_of_ble_eq_true rfl) (Nat.le_of_ble_eq_true rfl) (Nat.le_of_ble_eq_true rfl) dX11_restore_41 eo35 (k_X11_forgetActs e33) rfl ?_
        show AW G lo 0 0 44 [(0, .ref (lo + x0)), (1, .int x1)] [] h32
        refine a_iconst (v := (1 : Int32)) C dX11_restore_44 (by decide) ?_
        obtain ⟨rfl, rfl⟩ := sp2 e
        exact a_iret C q (Nat.le_of_ble_eq_true rfl) (Nat.le_of_ble_eq_true rfl) dX11_restore_45
      · have e := ip c16 e
        refine a_ldc C ko_X11_157 dX11_restore_24 ?_
        obtain ⟨rfl, rfl⟩ := sp2 e
        exact a_iret C q (Nat.le_of_ble_eq_true rfl) (Nat.le_of_ble_eq_true rfl) dX11_restore_26
    · have e := iN c2 e
      refine a_ldc C ko_X11_75 dX11_restore_9 ?_
      obtain ⟨rfl, rfl⟩ := sp2 e
      exact a_iret C q (Nat.le_of_ble_eq_true rfl) (Nat.le_of_ble_eq_true rfl) dX11_restore_11

set_option maxRecDepth 100000 in
def f_X11_kind (h : Hp) (x0 : Nat) (x1 : Int32) : Option (Int32 × Hp) := bA (gN h x0 10 3) fun a2 => bA (isC h a2 2) fun u9 => b2 (f_X3_doorAt h a2 x1) fun r5 h3 => b2 (match r5 with | none => some ((-1000001 : Int32), h3) | some a12 => bA (gC h3 a12) fun c23 => b2 (v_X2_sort c23 h3 a12 ) fun r19 h17 => some (r19, h17)) fun j13 h14 => some (j13, h14)

theorem m_X11_kind : MI yX11_kind cX11_kind 3 (some .int) 1 := ⟨co_X11_kind, ini_X11, by decide, by decide +kernel⟩
set_option maxRecDepth 100000 in
set_option maxHeartbeats 4000000 in
theorem k_X11_kind {lo : Nat} {h : Hp} {x0 : Nat} {x1 : Int32} {r : Int32} {h' : Hp} (e : f_X11_kind h x0 x1 = some (r, h')) : ∀ l d, AC l d lo yX11_kind cX11_kind 3 (some .int) ({ frames := 2, cells := 0, slots := 0, locals := 42 } : Room) [.ref (lo + x0), .int x1] h (some (.int r)) h' := by
  intro l d
  refine AC_of (by decide) (Nat.le_of_ble_eq_true rfl) ?_
  intro G C _ _ q
  unfold f_X11_kind at e
  show AW G lo 0 0 0 [(0, .ref (lo + x0)), (1, .int x1)] [] h
  refine a_aload_n C dX11_kind_0 rfl 0 rfl ?_
  obtain ⟨a2, e1, e⟩ := bA_some e
  refine a_getN C cb10 3 (by decide) fl_X11_33 rfl dX11_kind_1 e1 ?_
  refine a_iload_n C dX11_kind_4 rfl 1 rfl ?_
  obtain ⟨u9, ec8, e⟩ := bA_some e
  obtain ⟨fs7, eo6⟩ := isC_some ec8
  obtain ⟨r5, h3, e4, e⟩ := b2_some e
  refine a_callV (as := [.int x1]) (rest := []) C m_X3_doorAt im_X3_doorAt cb2 se_X3_X3_doorAt_X3_doorAt ml_X11_213 rfl (Nat.le_of_ble_eq_true rfl) (Nat.le_of_ble_eq_true rfl) (Nat.le_of_ble_eq_true rfl) (Nat.le_of_ble_eq_true rfl) (Nat.le_of_ble_eq_true rfl) dX11_kind_5 eo6 (k_X3_doorAt e4) rfl ?_
  show AW G lo 0 0 8 [(0, .ref (lo + x0)), (1, .int x1)] [va_rf (rl lo r5)] h3
  obtain ⟨j13, h14, eb16, e⟩ := b2_some e
  have jj15 : AW G lo 0 0 22 [(0, .ref (lo + x0)), (1, .int x1)] [.int j13] h14 := by
    obtain ⟨rfl, rfl⟩ := sp2 e
    exact a_iret C q (Nat.le_of_ble_eq_true rfl) (Nat.le_of_ble_eq_true rfl) dX11_kind_22
  have e := eb16
  rcases r5 with _ | a12
  · show AW G lo 0 0 8 [(0, .ref (lo + x0)), (1, .int x1)] [.null] h3
    refine a_astore_nN (lv2 := [(2, .null), (0, .ref (lo + x0)), (1, .int x1)]) C dX11_kind_8 rfl (by decide) rfl ?_
    refine a_aload_nN C dX11_kind_9 rfl 0 rfl ?_
    refine a_ifnonnullN C dX11_kind_10 ?_
    refine a_ldc C ko_X11_75 dX11_kind_13 ?_
    refine a_goto (tgt := 22) C dX11_kind_15 (by decide) ?_
    obtain ⟨rfl, rfl⟩ := sp2 e
    exact a_widen (Nat.le_of_ble_eq_true rfl) (Nat.le_of_ble_eq_true rfl) (a_sub [1, 2] rfl jj15)
  · show AW G lo 0 0 8 [(0, .ref (lo + x0)), (1, .int x1)] [.ref (lo + a12)] h3
    refine a_astore_n (lv2 := [(2, .ref (lo + a12)), (0, .ref (lo + x0)), (1, .int x1)]) C dX11_kind_8 rfl (by decide) rfl ?_
    refine a_aload_n C dX11_kind_9 rfl 0 rfl ?_
    refine a_ifnonnull (tgt := 18) C dX11_kind_10 (by decide) ?_
    refine a_aload_n C dX11_kind_18 rfl 0 rfl ?_
    obtain ⟨c23, ec22, e⟩ := bA_some e
    obtain ⟨fs21, eo20, ed24⟩ := gC_some ec22
    obtain ⟨r19, h17, e18, e⟩ := b2_some e
    refine a_callD (as := []) (rest := []) C (vd_X2_sort e18) sam_X2_X2_sort du_X2_sort (by decide) ml_X11_319 (Nat.le_of_ble_eq_true rfl) (Nat.le_of_ble_eq_true rfl) (Nat.le_of_ble_eq_true rfl) (Nat.le_of_ble_eq_true rfl) (Nat.le_of_ble_eq_true rfl) dX11_kind_19 eo20 rfl ?_
    show AW G lo 0 0 22 [(2, .ref (lo + a12)), (0, .ref (lo + x0)), (1, .int x1)] [.int r19] h17
    obtain ⟨rfl, rfl⟩ := sp2 e
    exact a_widen (Nat.le_of_ble_eq_true rfl) (Nat.le_of_ble_eq_true rfl) (a_sub [1, 2] rfl jj15)

set_option maxRecDepth 100000 in
def f_X11_as (h : Hp) (x0 : Nat) (x1 : Int32) (x2 : Int32) : Option (Int32 × Hp) := bA (gN h x0 10 3) fun a2 => bA (isC h a2 2) fun u9 => b2 (f_X3_doorAt h a2 x1) fun r5 h3 => (match r5 with | none => some ((-1000001 : Int32), h3) | some a12 => (if x2 < 0 then some ((-1000001 : Int32), h3) else (if x2 ≤ (5 : Int32) then bA (gC h3 a12) fun c21 => b2 (v_X2_is c21 h3 a12 x2) fun r17 h15 => b2 (if r17 = 0 then bA (isC h15 x0 10) fun u34 => b2 (f_X11_found h15 x0 (3 : Int32)) fun r30 h28 => some (r30, h28) else bA (gD h15 a12 0) fun g38 => bA (isC h15 x0 10) fun u45 => b2 (f_X11_well h15 x0 g38) fun r41 h39 => some (r41, h39)) fun j24 h25 => some (j24, h25) else some ((-1000001 : Int32), h3))))

theorem m_X11_as : MI yX11_as cX11_as 4 (some .int) 2 := ⟨co_X11_as, ini_X11, by decide, by decide +kernel⟩
set_option maxRecDepth 100000 in
set_option maxHeartbeats 4000000 in
theorem k_X11_as {lo : Nat} {h : Hp} {x0 : Nat} {x1 : Int32} {x2 : Int32} {r : Int32} {h' : Hp} (e : f_X11_as h x0 x1 x2 = some (r, h')) : ∀ l d, AC l d lo yX11_as cX11_as 4 (some .int) ({ frames := 5, cells := 0, slots := 0, locals := 124 } : Room) [.ref (lo + x0), .int x1, .int x2] h (some (.int r)) h' := by
  intro l d
  refine AC_of (by decide) (Nat.le_of_ble_eq_true rfl) ?_
  intro G C _ _ q
  unfold f_X11_as at e
  show AW G lo 0 0 0 [(0, .ref (lo + x0)), (1, .int x1), (2, .int x2)] [] h
  refine a_aload_n C dX11_as_0 rfl 0 rfl ?_
  obtain ⟨a2, e1, e⟩ := bA_some e
  refine a_getN C cb10 3 (by decide) fl_X11_33 rfl dX11_as_1 e1 ?_
  refine a_iload_n C dX11_as_4 rfl 1 rfl ?_
  obtain ⟨u9, ec8, e⟩ := bA_some e
  obtain ⟨fs7, eo6⟩ := isC_some ec8
  obtain ⟨r5, h3, e4, e⟩ := b2_some e
  refine a_callV (as := [.int x1]) (rest := []) C m_X3_doorAt im_X3_doorAt cb2 se_X3_X3_doorAt_X3_doorAt ml_X11_213 rfl (Nat.le_of_ble_eq_true rfl) (Nat.le_of_ble_eq_true rfl) (Nat.le_of_ble_eq_true rfl) (Nat.le_of_ble_eq_true rfl) (Nat.le_of_ble_eq_true rfl) dX11_as_5 eo6 (k_X3_doorAt e4) rfl ?_
  show AW G lo 0 0 8 [(0, .ref (lo + x0)), (1, .int x1), (2, .int x2)] [va_rf (rl lo r5)] h3
  rcases r5 with _ | a12
  · show AW G lo 0 0 8 [(0, .ref (lo + x0)), (1, .int x1), (2, .int x2)] [.null] h3
    refine a_astore_nN (lv2 := [(3, .null), (0, .ref (lo + x0)), (1, .int x1), (2, .int x2)]) C dX11_as_8 rfl (by decide) rfl ?_
    refine a_aload_nN C dX11_as_9 rfl 0 rfl ?_
    refine a_ifnullN (tgt := 22) C dX11_as_10 (by decide) ?_
    refine a_ldc C ko_X11_75 dX11_as_22 ?_
    obtain ⟨rfl, rfl⟩ := sp2 e
    exact a_iret C q (Nat.le_of_ble_eq_true rfl) (Nat.le_of_ble_eq_true rfl) dX11_as_24
  · show AW G lo 0 0 8 [(0, .ref (lo + x0)), (1, .int x1), (2, .int x2)] [.ref (lo + a12)] h3
    refine a_astore_n (lv2 := [(3, .ref (lo + a12)), (0, .ref (lo + x0)), (1, .int x1), (2, .int x2)]) C dX11_as_8 rfl (by decide) rfl ?_
    refine a_aload_n C dX11_as_9 rfl 0 rfl ?_
    refine a_ifnull C dX11_as_10 ?_
    refine a_iload_n C dX11_as_13 rfl 3 rfl ?_
    refine a_if_lt (tgt := 22) C dX11_as_14 (by decide) (fun c13 => ?_) (fun c13 => ?_)
    · have e := ip c13 e
      refine a_ldc C ko_X11_75 dX11_as_22 ?_
      obtain ⟨rfl, rfl⟩ := sp2 e
      exact a_iret C q (Nat.le_of_ble_eq_true rfl) (Nat.le_of_ble_eq_true rfl) dX11_as_24
    · have e := iN c13 e
      refine a_iload_n C dX11_as_17 rfl 3 rfl ?_
      refine a_iconst (v := (5 : Int32)) C dX11_as_18 (by decide) ?_
      refine a_icmp_le (tgt := 25) C dX11_as_19 (by decide) (fun c14 => ?_) (fun c14 => ?_)
      · have e := ip c14 e
        refine a_aload_n C dX11_as_25 rfl 0 rfl ?_
        refine a_iload_n C dX11_as_26 rfl 3 rfl ?_
        obtain ⟨c21, ec20, e⟩ := bA_some e
        obtain ⟨fs19, eo18, ed22⟩ := gC_some ec20
        obtain ⟨r17, h15, e16, e⟩ := b2_some e
        refine a_callD (as := [.int x2]) (rest := []) C (vd_X2_is e16) sam_X2_X2_is du_X2_is (by decide) ml_X11_322 (Nat.le_of_ble_eq_true rfl) (Nat.le_of_ble_eq_true rfl) (Nat.le_of_ble_eq_true rfl) (Nat.le_of_ble_eq_true rfl) (Nat.le_of_ble_eq_true rfl) dX11_as_27 eo18 rfl ?_
        show AW G lo 0 0 30 [(3, .ref (lo + a12)), (0, .ref (lo + x0)), (1, .int x1), (2, .int x2)] [.int r17] h15
        obtain ⟨j24, h25, eb27, e⟩ := b2_some e
        have jj26 : AW G lo 0 0 49 [(0, .ref (lo + x0)), (1, .int x1), (2, .int x2), (3, .ref (lo + a12))] [.int j24] h25 := by
          obtain ⟨rfl, rfl⟩ := sp2 e
          exact a_iret C q (Nat.le_of_ble_eq_true rfl) (Nat.le_of_ble_eq_true rfl) dX11_as_49
        have e := eb27
        refine a_if_eq (tgt := 44) C dX11_as_30 (by decide) (fun c23 => ?_) (fun c23 => ?_)
        · have e := ip c23 e
          refine a_aload_n C dX11_as_44 rfl 1 rfl ?_
          refine a_iconst (v := (3 : Int32)) C dX11_as_45 (by decide) ?_
          obtain ⟨u34, ec33, e⟩ := bA_some e
          obtain ⟨fs32, eo31⟩ := isC_some ec33
          obtain ⟨r30, h28, e29, e⟩ := b2_some e
          refine a_callV (as := [.int (3 : Int32)]) (rest := []) C m_X11_found im_X11_found cb10 se_X11_X11_found_X11_found ml_X11_76 rfl (Nat.le_of_ble_eq_true rfl) (Nat.le_of_ble_eq_true rfl) (Nat.le_of_ble_eq_true rfl) (Nat.le_of_ble_eq_true rfl) (Nat.le_of_ble_eq_true rfl) dX11_as_46 eo31 (k_X11_found e29) rfl ?_
          show AW G lo 0 0 49 [(3, .ref (lo + a12)), (0, .ref (lo + x0)), (1, .int x1), (2, .int x2)] [.int r30] h28
          obtain ⟨rfl, rfl⟩ := sp2 e
          exact a_widen (Nat.le_of_ble_eq_true rfl) (Nat.le_of_ble_eq_true rfl) (a_sub [1, 2, 3, 0] rfl jj26)
        · have e := iN c23 e
          refine a_aload_n C dX11_as_33 rfl 1 rfl ?_
          refine a_aload_n C dX11_as_34 rfl 0 rfl ?_
          obtain ⟨g38, e37, e⟩ := bA_some e
          refine a_getD C 0 (by decide) fl_X11_325 (Or.inl rfl) dX11_as_35 e37 ?_
          obtain ⟨u45, ec44, e⟩ := bA_some e
          obtain ⟨fs43, eo42⟩ := isC_some ec44
          obtain ⟨r41, h39, e40, e⟩ := b2_some e
          refine a_callV (as := [.int g38]) (rest := []) C m_X11_well im_X11_well cb10 se_X11_X11_well_X11_well ml_X11_84 rfl (Nat.le_of_ble_eq_true rfl) (Nat.le_of_ble_eq_true rfl) (Nat.le_of_ble_eq_true rfl) (Nat.le_of_ble_eq_true rfl) (Nat.le_of_ble_eq_true rfl) dX11_as_38 eo42 (k_X11_well e40) rfl ?_
          show AW G lo 0 0 41 [(3, .ref (lo + a12)), (0, .ref (lo + x0)), (1, .int x1), (2, .int x2)] [.int r41] h39
          refine a_goto (tgt := 49) C dX11_as_41 (by decide) ?_
          obtain ⟨rfl, rfl⟩ := sp2 e
          exact a_widen (Nat.le_of_ble_eq_true rfl) (Nat.le_of_ble_eq_true rfl) (a_sub [1, 2, 3, 0] rfl jj26)
      · have e := iN c14 e
        refine a_ldc C ko_X11_75 dX11_as_22 ?_
        obtain ⟨rfl, rfl⟩ := sp2 e
        exact a_iret C q (Nat.le_of_ble_eq_true rfl) (Nat.le_of_ble_eq_true rfl) dX11_as_24

set_option maxRecDepth 100000 in
def f_X11_ask (h : Hp) (x0 : Nat) (x1 : Int32) (x2 : Int32) : Option (Int32 × Hp) := bA (gN h x0 10 3) fun a2 => bA (isC h a2 2) fun u9 => b2 (f_X3_doorAt h a2 x1) fun r5 h3 => (match r5 with | none => some ((-1000001 : Int32), h3) | some a12 => bA (gN h3 x0 10 3) fun a14 => bA (isC h3 a14 2) fun u21 => b2 (f_X3_lacksDoor h3 a14 x1) fun r17 h15 => (if r17 = 0 then (if x2 < 0 then some ((-1000001 : Int32), h15) else (if x2 ≤ (1 : Int32) then bA (gN h15 x0 10 9) fun a28 => bA (isC h15 a28 5) fun u35 => bA (f_X6_clear h15 a28 ) fun h29 => bA (gN h29 x0 10 3) fun a39 => bA (gN h29 a39 2 1) fun a41 => bA (ald h29 a41 0 x1) fun v42 => b2 (if x2 = 0 then bA (gN h29 x0 10 9) fun a60 => bA (gC h29 a12) fun c67 => b2 (v_X2_size c67 h29 a12 v42 a60) fun r63 h61 => some (r63, h61) else bA (gN h29 x0 10 9) fun a50 => bA (gC h29 a12) fun c57 => b2 (v_X2_mark c57 h29 a12 v42 a50) fun r53 h51 => some (r53, h51)) fun j45 h46 => some (j45, h46) else some ((-1000001 : Int32), h15))) else some ((-1000001 : Int32), h15)))

theorem m_X11_ask : MI yX11_ask cX11_ask 5 (some .int) 2 := ⟨co_X11_ask, ini_X11, by decide, by decide +kernel⟩
set_option maxRecDepth 100000 in
set_option maxHeartbeats 4000000 in
theorem k_X11_ask {lo : Nat} {h : Hp} {x0 : Nat} {x1 : Int32} {x2 : Int32} {r : Int32} {h' : Hp} (e : f_X11_ask h x0 x1 x2 = some (r, h')) : ∀ l d, AC l d lo yX11_ask cX11_ask 5 (some .int) ({ frames := 9, cells := 0, slots := 0, locals := 324 } : Room) [.ref (lo + x0), .int x1, .int x2] h (some (.int r)) h' := by
  intro l d
  refine AC_of (by decide) (Nat.le_of_ble_eq_true rfl) ?_
  intro G C _ _ q
  unfold f_X11_ask at e
  show AW G lo 0 0 0 [(0, .ref (lo + x0)), (1, .int x1), (2, .int x2)] [] h
  refine a_aload_n C dX11_ask_0 rfl 0 rfl ?_
  obtain ⟨a2, e1, e⟩ := bA_some e
  refine a_getN C cb10 3 (by decide) fl_X11_33 rfl dX11_ask_1 e1 ?_
  refine a_iload_n C dX11_ask_4 rfl 1 rfl ?_
  obtain ⟨u9, ec8, e⟩ := bA_some e
  obtain ⟨fs7, eo6⟩ := isC_some ec8
  obtain ⟨r5, h3, e4, e⟩ := b2_some e
  refine a_callV (as := [.int x1]) (rest := []) C m_X3_doorAt im_X3_doorAt cb2 se_X3_X3_doorAt_X3_doorAt ml_X11_213 rfl (Nat.le_of_ble_eq_true rfl) (Nat.le_of_ble_eq_true rfl) (Nat.le_of_ble_eq_true rfl) (Nat.le_of_ble_eq_true rfl) (Nat.le_of_ble_eq_true rfl) dX11_ask_5 eo6 (k_X3_doorAt e4) rfl ?_
  show AW G lo 0 0 8 [(0, .ref (lo + x0)), (1, .int x1), (2, .int x2)] [va_rf (rl lo r5)] h3
  rcases r5 with _ | a12
  · show AW G lo 0 0 8 [(0, .ref (lo + x0)), (1, .int x1), (2, .int x2)] [.null] h3
    refine a_astore_nN (lv2 := [(3, .null), (0, .ref (lo + x0)), (1, .int x1), (2, .int x2)]) C dX11_ask_8 rfl (by decide) rfl ?_
    refine a_aload_nN C dX11_ask_9 rfl 0 rfl ?_
    refine a_ifnullN (tgt := 33) C dX11_ask_10 (by decide) ?_
    refine a_ldc C ko_X11_75 dX11_ask_33 ?_
    obtain ⟨rfl, rfl⟩ := sp2 e
    exact a_iret C q (Nat.le_of_ble_eq_true rfl) (Nat.le_of_ble_eq_true rfl) dX11_ask_35
  · show AW G lo 0 0 8 [(0, .ref (lo + x0)), (1, .int x1), (2, .int x2)] [.ref (lo + a12)] h3
    refine a_astore_n (lv2 := [(3, .ref (lo + a12)), (0, .ref (lo + x0)), (1, .int x1), (2, .int x2)]) C dX11_ask_8 rfl (by decide) rfl ?_
    refine a_aload_n C dX11_ask_9 rfl 0 rfl ?_
    refine a_ifnull C dX11_ask_10 ?_
    refine a_aload_n C dX11_ask_13 rfl 1 rfl ?_
    obtain ⟨a14, e13, e⟩ := bA_some e
    refine a_getN C cb10 3 (by decide) fl_X11_33 rfl dX11_ask_14 e13 ?_
    refine a_iload_n C dX11_ask_17 rfl 2 rfl ?_
    obtain ⟨u21, ec20, e⟩ := bA_some e
    obtain ⟨fs19, eo18⟩ := isC_some ec20
    obtain ⟨r17, h15, e16, e⟩ := b2_some e
    refine a_callV (as := [.int x1]) (rest := []) C m_X3_lacksDoor im_X3_lacksDoor cb2 se_X3_X3_lacksDoor_X3_lacksDoor ml_X11_186 rfl (Nat.le_of_ble_eq_true rfl) (Nat.le_of_ble_eq_true rfl) (Nat.le_of_ble_eq_true rfl) (Nat.le_of_ble_eq_true rfl) (Nat.le_of_ble_eq_true rfl) dX11_ask_18 eo18 (k_X3_lacksDoor e16) rfl ?_
    show AW G lo 0 0 21 [(3, .ref (lo + a12)), (0, .ref (lo + x0)), (1, .int x1), (2, .int x2)] [.int r17] h15
    refine a_if_ne (tgt := 33) C dX11_ask_21 (by decide) (fun c24 => ?_) (fun c24 => ?_)
    · have e := iN c24 e
      refine a_ldc C ko_X11_75 dX11_ask_33 ?_
      obtain ⟨rfl, rfl⟩ := sp2 e
      exact a_iret C q (Nat.le_of_ble_eq_true rfl) (Nat.le_of_ble_eq_true rfl) dX11_ask_35
    · have e := ip c24 e
      refine a_iload_n C dX11_ask_24 rfl 3 rfl ?_
      refine a_if_lt (tgt := 33) C dX11_ask_25 (by decide) (fun c25 => ?_) (fun c25 => ?_)
      · have e := ip c25 e
        refine a_ldc C ko_X11_75 dX11_ask_33 ?_
        obtain ⟨rfl, rfl⟩ := sp2 e
        exact a_iret C q (Nat.le_of_ble_eq_true rfl) (Nat.le_of_ble_eq_true rfl) dX11_ask_35
      · have e := iN c25 e
        refine a_iload_n C dX11_ask_28 rfl 3 rfl ?_
        refine a_iconst (v := (1 : Int32)) C dX11_ask_29 (by decide) ?_
        refine a_icmp_le (tgt := 36) C dX11_ask_30 (by decide) (fun c26 => ?_) (fun c26 => ?_)
        · have e := ip c26 e
          refine a_aload_n C dX11_ask_36 rfl 1 rfl ?_
          obtain ⟨a28, e27, e⟩ := bA_some e
          refine a_getN C cb10 9 (by decide) fl_X11_59 rfl dX11_ask_37 e27 ?_
          obtain ⟨u35, ec34, e⟩ := bA_some e
          obtain ⟨fs33, eo32⟩ := isC_some ec34
          obtain ⟨h29, e30, e⟩ := bA_some e
          refine a_callV (as := []) (rest := []) C m_X6_clear im_X6_clear cb5 se_X6_X6_clear_X6_clear ml_X11_148 rfl (Nat.le_of_ble_eq_true rfl) (Nat.le_of_ble_eq_true rfl) (Nat.le_of_ble_eq_true rfl) (Nat.le_of_ble_eq_true rfl) (Nat.le_of_ble_eq_true rfl) dX11_ask_40 eo32 (k_X6_clear e30) rfl ?_
          show AW G lo 0 0 43 [(3, .ref (lo + a12)), (0, .ref (lo + x0)), (1, .int x1), (2, .int x2)] [] h29
          refine a_aload_n C dX11_ask_43 rfl 1 rfl ?_
          obtain ⟨a39, e38, e⟩ := bA_some e
          refine a_getN C cb10 3 (by decide) fl_X11_33 rfl dX11_ask_44 e38 ?_
          obtain ⟨a41, e40, e⟩ := bA_some e
          refine a_getN C cb2 1 (by decide) fl_X11_189 rfl dX11_ask_47 e40 ?_
          refine a_iload_n C dX11_ask_50 rfl 2 rfl ?_
          obtain ⟨v42, e43, e⟩ := bA_some e
          refine a_iald C dX11_ask_51 e43 ?_
          refine a_istore (lv2 := [(4, .int v42), (3, .ref (lo + a12)), (0, .ref (lo + x0)), (1, .int x1), (2, .int x2)]) C dX11_ask_52 (by decide) rfl ?_
          refine a_iload_n C dX11_ask_54 rfl 4 rfl ?_
          obtain ⟨j45, h46, eb48, e⟩ := b2_some e
          have jj47 : AW G lo 0 0 81 [(0, .ref (lo + x0)), (1, .int x1), (2, .int x2), (3, .ref (lo + a12)), (4, .int v42)] [.int j45] h46 := by
            obtain ⟨rfl, rfl⟩ := sp2 e
            exact a_iret C q (Nat.le_of_ble_eq_true rfl) (Nat.le_of_ble_eq_true rfl) dX11_ask_81
          have e := eb48
          refine a_if_ne (tgt := 71) C dX11_ask_55 (by decide) (fun c44 => ?_) (fun c44 => ?_)
          · have e := iN c44 e
            refine a_aload_n C dX11_ask_71 rfl 1 rfl ?_
            refine a_iload C dX11_ask_72 0 rfl ?_
            refine a_aload_n C dX11_ask_74 rfl 2 rfl ?_
            obtain ⟨a50, e49, e⟩ := bA_some e
            refine a_getN C cb10 9 (by decide) fl_X11_59 rfl dX11_ask_75 e49 ?_
            obtain ⟨c57, ec56, e⟩ := bA_some e
            obtain ⟨fs55, eo54, ed58⟩ := gC_some ec56
            obtain ⟨r53, h51, e52, e⟩ := b2_some e
            refine a_callD (as := [.int v42, .ref (lo + a50)]) (rest := []) C (vd_X2_mark e52) sam_X2_X2_mark du_X2_mark (by decide) ml_X11_332 (Nat.le_of_ble_eq_true rfl) (Nat.le_of_ble_eq_true rfl) (Nat.le_of_ble_eq_true rfl) (Nat.le_of_ble_eq_true rfl) (Nat.le_of_ble_eq_true rfl) dX11_ask_78 eo54 rfl ?_
            show AW G lo 0 0 81 [(4, .int v42), (3, .ref (lo + a12)), (0, .ref (lo + x0)), (1, .int x1), (2, .int x2)] [.int r53] h51
            obtain ⟨rfl, rfl⟩ := sp2 e
            exact a_widen (Nat.le_of_ble_eq_true rfl) (Nat.le_of_ble_eq_true rfl) (a_sub [2, 3, 4, 1, 0] rfl jj47)
          · have e := ip c44 e
            refine a_aload_n C dX11_ask_58 rfl 1 rfl ?_
            refine a_iload C dX11_ask_59 0 rfl ?_
            refine a_aload_n C dX11_ask_61 rfl 2 rfl ?_
            obtain ⟨a60, e59, e⟩ := bA_some e
            refine a_getN C cb10 9 (by decide) fl_X11_59 rfl dX11_ask_62 e59 ?_
            obtain ⟨c67, ec66, e⟩ := bA_some e
            obtain ⟨fs65, eo64, ed68⟩ := gC_some ec66
            obtain ⟨r63, h61, e62, e⟩ := b2_some e
            refine a_callD (as := [.int v42, .ref (lo + a60)]) (rest := []) C (vd_X2_size e62) sam_X2_X2_size du_X2_size (by decide) ml_X11_328 (Nat.le_of_ble_eq_true rfl) (Nat.le_of_ble_eq_true rfl) (Nat.le_of_ble_eq_true rfl) (Nat.le_of_ble_eq_true rfl) (Nat.le_of_ble_eq_true rfl) dX11_ask_65 eo64 rfl ?_
            show AW G lo 0 0 68 [(4, .int v42), (3, .ref (lo + a12)), (0, .ref (lo + x0)), (1, .int x1), (2, .int x2)] [.int r63] h61
            refine a_goto (tgt := 81) C dX11_ask_68 (by decide) ?_
            obtain ⟨rfl, rfl⟩ := sp2 e
            exact a_widen (Nat.le_of_ble_eq_true rfl) (Nat.le_of_ble_eq_true rfl) (a_sub [2, 3, 4, 1, 0] rfl jj47)
        · have e := iN c26 e
          refine a_ldc C ko_X11_75 dX11_ask_33 ?_
          obtain ⟨rfl, rfl⟩ := sp2 e
          exact a_iret C q (Nat.le_of_ble_eq_true rfl) (Nat.le_of_ble_eq_true rfl) dX11_ask_35

set_option maxRecDepth 100000 in
def f_X11_trace (h : Hp) (x0 : Nat) (x1 : Int32) : Option (Int32 × Hp) := bA (gN h x0 10 9) fun a2 => bA (isC h a2 5) fun u9 => b2 (f_X6_at h a2 x1) fun r5 h3 => some (r5, h3)

theorem m_X11_trace : MI yX11_trace cX11_trace 2 (some .int) 1 := ⟨co_X11_trace, ini_X11, by decide, by decide +kernel⟩
set_option maxRecDepth 100000 in
set_option maxHeartbeats 4000000 in
theorem k_X11_trace {lo : Nat} {h : Hp} {x0 : Nat} {x1 : Int32} {r : Int32} {h' : Hp} (e : f_X11_trace h x0 x1 = some (r, h')) : ∀ l d, AC l d lo yX11_trace cX11_trace 2 (some .int) ({ frames := 1, cells := 0, slots := 0, locals := 21 } : Room) [.ref (lo + x0), .int x1] h (some (.int r)) h' := by
  intro l d
  refine AC_of (by decide) (Nat.le_of_ble_eq_true rfl) ?_
  intro G C _ _ q
  unfold f_X11_trace at e
  show AW G lo 0 0 0 [(0, .ref (lo + x0)), (1, .int x1)] [] h
  refine a_aload_n C dX11_trace_0 rfl 0 rfl ?_
  obtain ⟨a2, e1, e⟩ := bA_some e
  refine a_getN C cb10 9 (by decide) fl_X11_59 rfl dX11_trace_1 e1 ?_
  refine a_iload_n C dX11_trace_4 rfl 1 rfl ?_
  obtain ⟨u9, ec8, e⟩ := bA_some e
  obtain ⟨fs7, eo6⟩ := isC_some ec8
  obtain ⟨r5, h3, e4, e⟩ := b2_some e
  refine a_callV (as := [.int x1]) (rest := []) C m_X6_at im_X6_at cb5 se_X6_X6_at_X6_at ml_X11_184 rfl (Nat.le_of_ble_eq_true rfl) (Nat.le_of_ble_eq_true rfl) (Nat.le_of_ble_eq_true rfl) (Nat.le_of_ble_eq_true rfl) (Nat.le_of_ble_eq_true rfl) dX11_trace_5 eo6 (k_X6_at e4) rfl ?_
  show AW G lo 0 0 8 [(0, .ref (lo + x0)), (1, .int x1)] [.int r5] h3
  obtain ⟨rfl, rfl⟩ := sp2 e
  exact a_iret C q (Nat.le_of_ble_eq_true rfl) (Nat.le_of_ble_eq_true rfl) dX11_trace_8

set_option maxRecDepth 100000 in
def f_X11_count (h : Hp) (x0 : Nat) (x1 : Int32) : Option (Int32 × Hp) := (if x1 = (0 : Int32) then bA (isC h x0 10) fun u9 => b2 (f_X11_rowsThere h x0 ) fun r5 h3 => some (r5, h3) else (if x1 = (1 : Int32) then bA (gN h x0 10 3) fun a14 => bA (gI h a14 2 4) fun g16 => some (g16, h) else (if x1 = (2 : Int32) then bA (gN h x0 10 3) fun a19 => bA (gI h a19 2 3) fun g21 => some (g21, h) else (if x1 = (3 : Int32) then bA (gN h x0 10 3) fun a24 => bA (isC h a24 2) fun u31 => b2 (f_X3_weightOfAll h a24 ) fun r27 h25 => some (r27, h25) else (if x1 = (4 : Int32) then bA (gN h x0 10 3) fun a36 => bA (gI h a36 2 8) fun g38 => some (g38, h) else (if x1 = (5 : Int32) then bA (gN h x0 10 3) fun a41 => bA (isC h a41 2) fun u48 => b2 (f_X3_wearOfAll h a41 ) fun r44 h42 => some (r44, h42) else (if x1 = (6 : Int32) then bA (gN h x0 10 4) fun a53 => bA (gI h a53 5 1) fun g55 => some (g55, h) else (if x1 = (7 : Int32) then bA (gI h x0 10 13) fun g58 => some (g58, h) else (if x1 = (8 : Int32) then bA (gN h x0 10 1) fun a61 => bA (gI h a61 6 2) fun g63 => some (g63, h) else some ((-1000001 : Int32), h))))))))))

theorem m_X11_count : MI yX11_count cX11_count 2 (some .int) 1 := ⟨co_X11_count, ini_X11, by decide, by decide +kernel⟩
set_option maxRecDepth 100000 in
set_option maxHeartbeats 4000000 in
theorem k_X11_count {lo : Nat} {h : Hp} {x0 : Nat} {x1 : Int32} {r : Int32} {h' : Hp} (e : f_X11_count h x0 x1 = some (r, h')) : ∀ l d, AC l d lo yX11_count cX11_count 2 (some .int) ({ frames := 2, cells := 0, slots := 0, locals := 43 } : Room) [.ref (lo + x0), .int x1] h (some (.int r)) h' := by
  intro l d
  refine AC_of (by decide) (Nat.le_of_ble_eq_true rfl) ?_
  intro G C _ _ q
  unfold f_X11_count at e
  show AW G lo 0 0 0 [(0, .ref (lo + x0)), (1, .int x1)] [] h
  refine a_iload_n C dX11_count_0 rfl 1 rfl ?_
  have hxx1 : x1 = x1 := rfl
  by_cases c2 : x1 = (0 : Int32)
  · have e := ip c2 e
    refine a_tableIn (tgt := 52) C dX11_count_1 (by rw [c2]; decide) (by rw [c2]; decide) (by rw [c2]; first | done | rfl) (by decide) ?_
    refine a_aload_n C dX11_count_52 rfl 0 rfl ?_
    obtain ⟨u9, ec8, e⟩ := bA_some e
    obtain ⟨fs7, eo6⟩ := isC_some ec8
    obtain ⟨r5, h3, e4, e⟩ := b2_some e
    refine a_callV (as := []) (rest := []) C m_X11_rowsThere im_X11_rowsThere cb10 se_X11_X11_rowsThere_X11_rowsThere ml_X11_335 rfl (Nat.le_of_ble_eq_true rfl) (Nat.le_of_ble_eq_true rfl) (Nat.le_of_ble_eq_true rfl) (Nat.le_of_ble_eq_true rfl) (Nat.le_of_ble_eq_true rfl) dX11_count_53 eo6 (k_X11_rowsThere e4) rfl ?_
    show AW G lo 0 0 56 [(0, .ref (lo + x0)), (1, .int x1)] [.int r5] h3
    obtain ⟨rfl, rfl⟩ := sp2 e
    exact a_iret C q (Nat.le_of_ble_eq_true rfl) (Nat.le_of_ble_eq_true rfl) dX11_count_56
  have e := iN c2 e
  by_cases c12 : x1 = (1 : Int32)
  · have e := ip c12 e
    refine a_tableIn (tgt := 57) C dX11_count_1 (by rw [c12]; decide) (by rw [c12]; decide) (by rw [c12]; first | done | rfl) (by decide) ?_
    refine a_aload_n C dX11_count_57 rfl 0 rfl ?_
    obtain ⟨a14, e13, e⟩ := bA_some e
    refine a_getN C cb10 3 (by decide) fl_X11_33 rfl dX11_count_58 e13 ?_
    obtain ⟨g16, e15, e⟩ := bA_some e
    refine a_getI C cb2 4 (by decide) fl_X11_151 rfl dX11_count_61 e15 ?_
    obtain ⟨rfl, rfl⟩ := sp2 e
    exact a_iret C q (Nat.le_of_ble_eq_true rfl) (Nat.le_of_ble_eq_true rfl) dX11_count_64
  have e := iN c12 e
  by_cases c17 : x1 = (2 : Int32)
  · have e := ip c17 e
    refine a_tableIn (tgt := 65) C dX11_count_1 (by rw [c17]; decide) (by rw [c17]; decide) (by rw [c17]; first | done | rfl) (by decide) ?_
    refine a_aload_n C dX11_count_65 rfl 0 rfl ?_
    obtain ⟨a19, e18, e⟩ := bA_some e
    refine a_getN C cb10 3 (by decide) fl_X11_33 rfl dX11_count_66 e18 ?_
    obtain ⟨g21, e20, e⟩ := bA_some e
    refine a_getI C cb2 3 (by decide) fl_X11_279 rfl dX11_count_69 e20 ?_
    obtain ⟨rfl, rfl⟩ := sp2 e
    exact a_iret C q (Nat.le_of_ble_eq_true rfl) (Nat.le_of_ble_eq_true rfl) dX11_count_72
  have e := iN c17 e
  by_cases c22 : x1 = (3 : Int32)
  · have e := ip c22 e
    refine a_tableIn (tgt := 73) C dX11_count_1 (by rw [c22]; decide) (by rw [c22]; decide) (by rw [c22]; first | done | rfl) (by decide) ?_
    refine a_aload_n C dX11_count_73 rfl 0 rfl ?_
    obtain ⟨a24, e23, e⟩ := bA_some e
    refine a_getN C cb10 3 (by decide) fl_X11_33 rfl dX11_count_74 e23 ?_
    obtain ⟨u31, ec30, e⟩ := bA_some e
    obtain ⟨fs29, eo28⟩ := isC_some ec30
    obtain ⟨r27, h25, e26, e⟩ := b2_some e
    refine a_callV (as := []) (rest := []) C m_X3_weightOfAll im_X3_weightOfAll cb2 se_X3_X3_weightOfAll_X3_weightOfAll ml_X11_197 rfl (Nat.le_of_ble_eq_true rfl) (Nat.le_of_ble_eq_true rfl) (Nat.le_of_ble_eq_true rfl) (Nat.le_of_ble_eq_true rfl) (Nat.le_of_ble_eq_true rfl) dX11_count_77 eo28 (k_X3_weightOfAll e26) rfl ?_
    show AW G lo 0 0 80 [(0, .ref (lo + x0)), (1, .int x1)] [.int r27] h25
    obtain ⟨rfl, rfl⟩ := sp2 e
    exact a_iret C q (Nat.le_of_ble_eq_true rfl) (Nat.le_of_ble_eq_true rfl) dX11_count_80
  have e := iN c22 e
  by_cases c34 : x1 = (4 : Int32)
  · have e := ip c34 e
    refine a_tableIn (tgt := 81) C dX11_count_1 (by rw [c34]; decide) (by rw [c34]; decide) (by rw [c34]; first | done | rfl) (by decide) ?_
    refine a_aload_n C dX11_count_81 rfl 0 rfl ?_
    obtain ⟨a36, e35, e⟩ := bA_some e
    refine a_getN C cb10 3 (by decide) fl_X11_33 rfl dX11_count_82 e35 ?_
    obtain ⟨g38, e37, e⟩ := bA_some e
    refine a_getI C cb2 8 (by decide) fl_X11_338 rfl dX11_count_85 e37 ?_
    obtain ⟨rfl, rfl⟩ := sp2 e
    exact a_iret C q (Nat.le_of_ble_eq_true rfl) (Nat.le_of_ble_eq_true rfl) dX11_count_88
  have e := iN c34 e
  by_cases c39 : x1 = (5 : Int32)
  · have e := ip c39 e
    refine a_tableIn (tgt := 89) C dX11_count_1 (by rw [c39]; decide) (by rw [c39]; decide) (by rw [c39]; first | done | rfl) (by decide) ?_
    refine a_aload_n C dX11_count_89 rfl 0 rfl ?_
    obtain ⟨a41, e40, e⟩ := bA_some e
    refine a_getN C cb10 3 (by decide) fl_X11_33 rfl dX11_count_90 e40 ?_
    obtain ⟨u48, ec47, e⟩ := bA_some e
    obtain ⟨fs46, eo45⟩ := isC_some ec47
    obtain ⟨r44, h42, e43, e⟩ := b2_some e
    refine a_callV (as := []) (rest := []) C m_X3_wearOfAll im_X3_wearOfAll cb2 se_X3_X3_wearOfAll_X3_wearOfAll ml_X11_341 rfl (Nat.le_of_ble_eq_true rfl) (Nat.le_of_ble_eq_true rfl) (Nat.le_of_ble_eq_true rfl) (Nat.le_of_ble_eq_true rfl) (Nat.le_of_ble_eq_true rfl) dX11_count_93 eo45 (k_X3_wearOfAll e43) rfl ?_
    show AW G lo 0 0 96 [(0, .ref (lo + x0)), (1, .int x1)] [.int r44] h42
    obtain ⟨rfl, rfl⟩ := sp2 e
    exact a_iret C q (Nat.le_of_ble_eq_true rfl) (Nat.le_of_ble_eq_true rfl) dX11_count_96
  have e := iN c39 e
  by_cases c51 : x1 = (6 : Int32)
  · have e := ip c51 e
    refine a_tableIn (tgt := 97) C dX11_count_1 (by rw [c51]; decide) (by rw [c51]; decide) (by rw [c51]; first | done | rfl) (by decide) ?_
    refine a_aload_n C dX11_count_97 rfl 0 rfl ?_
    obtain ⟨a53, e52, e⟩ := bA_some e
    refine a_getN C cb10 4 (by decide) fl_X11_38 rfl dX11_count_98 e52 ?_
    obtain ⟨g55, e54, e⟩ := bA_some e
    refine a_getI C cb5 1 (by decide) fl_X11_344 rfl dX11_count_101 e54 ?_
    obtain ⟨rfl, rfl⟩ := sp2 e
    exact a_iret C q (Nat.le_of_ble_eq_true rfl) (Nat.le_of_ble_eq_true rfl) dX11_count_104
  have e := iN c51 e
  by_cases c56 : x1 = (7 : Int32)
  · have e := ip c56 e
    refine a_tableIn (tgt := 105) C dX11_count_1 (by rw [c56]; decide) (by rw [c56]; decide) (by rw [c56]; first | done | rfl) (by decide) ?_
    refine a_aload_n C dX11_count_105 rfl 0 rfl ?_
    obtain ⟨g58, e57, e⟩ := bA_some e
    refine a_getI C cb10 13 (by decide) fl_X11_154 rfl dX11_count_106 e57 ?_
    obtain ⟨rfl, rfl⟩ := sp2 e
    exact a_iret C q (Nat.le_of_ble_eq_true rfl) (Nat.le_of_ble_eq_true rfl) dX11_count_109
  have e := iN c56 e
  by_cases c59 : x1 = (8 : Int32)
  · have e := ip c59 e
    refine a_tableIn (tgt := 110) C dX11_count_1 (by rw [c59]; decide) (by rw [c59]; decide) (by rw [c59]; first | done | rfl) (by decide) ?_
    refine a_aload_n C dX11_count_110 rfl 0 rfl ?_
    obtain ⟨a61, e60, e⟩ := bA_some e
    refine a_getN C cb10 1 (by decide) fl_X11_18 rfl dX11_count_111 e60 ?_
    obtain ⟨g63, e62, e⟩ := bA_some e
    refine a_getI C cb6 2 (by decide) fl_X11_345 rfl dX11_count_114 e62 ?_
    obtain ⟨rfl, rfl⟩ := sp2 e
    exact a_iret C q (Nat.le_of_ble_eq_true rfl) (Nat.le_of_ble_eq_true rfl) dX11_count_117
  have e := iN c59 e
  refine a_tableOut (tgt := 118) C dX11_count_1 (Classical.byContradiction fun hz => ?_) (by decide) ?_
  · have hz2 : x1.toInt = 0 ∨ x1.toInt = 1 ∨ x1.toInt = 2 ∨ x1.toInt = 3 ∨ x1.toInt = 4 ∨ x1.toInt = 5 ∨ x1.toInt = 6 ∨ x1.toInt = 7 ∨ x1.toInt = 8 := by omega
    rcases hz2 with hz3 | hz3 | hz3 | hz3 | hz3 | hz3 | hz3 | hz3 | hz3
    · exact c2 (Int32.toInt_inj.mp (hz3.trans (by decide)))
    · exact c12 (Int32.toInt_inj.mp (hz3.trans (by decide)))
    · exact c17 (Int32.toInt_inj.mp (hz3.trans (by decide)))
    · exact c22 (Int32.toInt_inj.mp (hz3.trans (by decide)))
    · exact c34 (Int32.toInt_inj.mp (hz3.trans (by decide)))
    · exact c39 (Int32.toInt_inj.mp (hz3.trans (by decide)))
    · exact c51 (Int32.toInt_inj.mp (hz3.trans (by decide)))
    · exact c56 (Int32.toInt_inj.mp (hz3.trans (by decide)))
    · exact c59 (Int32.toInt_inj.mp (hz3.trans (by decide)))
  · refine a_ldc C ko_X11_75 dX11_count_118 ?_
    obtain ⟨rfl, rfl⟩ := sp2 e
    exact a_iret C q (Nat.le_of_ble_eq_true rfl) (Nat.le_of_ble_eq_true rfl) dX11_count_120

set_option maxRecDepth 100000 in
def f_X11_status (h : Hp) (x0 : Nat) : Option (Int32 × Hp) := bA (gI h x0 10 15) fun g2 => some (g2, h)

theorem m_X11_status : MI yX11_status cX11_status 1 (some .int) 0 := ⟨co_X11_status, ini_X11, by decide, by decide +kernel⟩
set_option maxRecDepth 100000 in
set_option maxHeartbeats 4000000 in
theorem k_X11_status {lo : Nat} {h : Hp} {x0 : Nat} {r : Int32} {h' : Hp} (e : f_X11_status h x0 = some (r, h')) : ∀ l d, AC l d lo yX11_status cX11_status 1 (some .int) ({ frames := 0, cells := 0, slots := 0, locals := 0 } : Room) [.ref (lo + x0)] h (some (.int r)) h' := by
  intro l d
  refine AC_of (by decide) (Nat.le_of_ble_eq_true rfl) ?_
  intro G C _ _ q
  unfold f_X11_status at e
  show AW G lo 0 0 0 [(0, .ref (lo + x0))] [] h
  refine a_aload_n C dX11_status_0 rfl 0 rfl ?_
  obtain ⟨g2, e1, e⟩ := bA_some e
  refine a_getI C cb10 15 (by decide) fl_X11_346 rfl dX11_status_1 e1 ?_
  obtain ⟨rfl, rfl⟩ := sp2 e
  exact a_iret C q (Nat.le_of_ble_eq_true rfl) (Nat.le_of_ble_eq_true rfl) dX11_status_4
