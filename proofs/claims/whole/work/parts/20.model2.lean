set_option maxRecDepth 100000 in
def f_X12_isThere (h : Hp) (x0 : Nat) : Option (Int32 × Hp) := bA (gN h x0 11 5) fun a2 => bA (ald h a2 0 (1 : Int32)) fun v3 => bA (if v3 ≤ 0 then some (0 : Int32) else some (1 : Int32)) fun j6 => bA (bz j6) fun z9 => some (j6, h)

theorem m_X12_isThere : MI yX12_isThere cX12_isThere 1 (some .boolean) 0 := ⟨co_X12_isThere, ini_X12, by decide, by decide +kernel⟩
set_option maxRecDepth 100000 in
set_option maxHeartbeats 4000000 in
theorem k_X12_isThere {lo : Nat} {h : Hp} {x0 : Nat} {r : Int32} {h' : Hp} (e : f_X12_isThere h x0 = some (r, h')) : ∀ l d, AC l d lo yX12_isThere cX12_isThere 1 (some .boolean) ({ frames := 0, cells := 0, slots := 0, locals := 0 } : Room) [.ref (lo + x0)] h (some (.int r)) h' := by
  intro l d
  refine AC_of (by decide) (Nat.le_of_ble_eq_true rfl) ?_
  intro G C _ _ q
  unfold f_X12_isThere at e
  show AW G lo 0 0 0 [(0, .ref (lo + x0))] [] h
  refine a_aload_n C dX12_isThere_0 rfl 0 rfl ?_
  obtain ⟨a2, e1, e⟩ := bA_some e
  refine a_getN C cb11 5 (by decide) fl_X12_19 rfl dX12_isThere_1 e1 ?_
  refine a_iconst (v := (1 : Int32)) C dX12_isThere_4 (by decide) ?_
  obtain ⟨v3, e4, e⟩ := bA_some e
  refine a_iald C dX12_isThere_5 e4 ?_
  obtain ⟨j6, eb8, e⟩ := bA_some e
  have jj7 : AW G lo 0 0 14 [(0, .ref (lo + x0))] [.int j6] h := by
    obtain ⟨z9, e10, e⟩ := bA_some e
    obtain ⟨rfl, rfl⟩ := sp2 e
    exact a_zret C q (bz_some e10) (Nat.le_of_ble_eq_true rfl) (Nat.le_of_ble_eq_true rfl) dX12_isThere_14
  have e := eb8
  refine a_if_le (tgt := 13) C dX12_isThere_6 (by decide) (fun c5 => ?_) (fun c5 => ?_)
  · have e := ip c5 e
    refine a_iconst (v := (0 : Int32)) C dX12_isThere_13 (by decide) ?_
    obtain rfl := sp1 e
    exact a_widen (Nat.le_of_ble_eq_true rfl) (Nat.le_of_ble_eq_true rfl) (a_sub [0] rfl jj7)
  · have e := iN c5 e
    refine a_iconst (v := (1 : Int32)) C dX12_isThere_9 (by decide) ?_
    refine a_goto (tgt := 14) C dX12_isThere_10 (by decide) ?_
    obtain rfl := sp1 e
    exact a_widen (Nat.le_of_ble_eq_true rfl) (Nat.le_of_ble_eq_true rfl) (a_sub [0] rfl jj7)

set_option maxRecDepth 100000 in
def f_X12_isDoor (h : Hp) (x0 : Nat) (x1 : Int32) : Option (Int32 × Hp) := bA (gN h x0 11 5) fun a2 => bA (ald h a2 0 (0 : Int32)) fun v3 => b2 (f_X12_in h x1.toInt64 (0 : Int64) ((v3 - (1 : Int32)).toInt64)) fun r7 h5 => bA (bz r7) fun z13 => some (r7, h5)

theorem m_X12_isDoor : MI yX12_isDoor cX12_isDoor 2 (some .boolean) 1 := ⟨co_X12_isDoor, ini_X12, by decide, by decide +kernel⟩
set_option maxRecDepth 100000 in
set_option maxHeartbeats 4000000 in
theorem k_X12_isDoor {lo : Nat} {h : Hp} {x0 : Nat} {x1 : Int32} {r : Int32} {h' : Hp} (e : f_X12_isDoor h x0 x1 = some (r, h')) : ∀ l d, AC l d lo yX12_isDoor cX12_isDoor 2 (some .boolean) ({ frames := 1, cells := 0, slots := 0, locals := 25 } : Room) [.ref (lo + x0), .int x1] h (some (.int r)) h' := by
  intro l d
  refine AC_of (by decide) (Nat.le_of_ble_eq_true rfl) ?_
  intro G C _ _ q
  unfold f_X12_isDoor at e
  show AW G lo 0 0 0 [(0, .ref (lo + x0)), (1, .int x1)] [] h
  refine a_iload_n C dX12_isDoor_0 rfl 1 rfl ?_
  refine a_i2l C dX12_isDoor_1 ?_
  refine a_lconst (v := (0 : Int64)) C dX12_isDoor_2 (by decide) ?_
  refine a_aload_n C dX12_isDoor_3 rfl 0 rfl ?_
  obtain ⟨a2, e1, e⟩ := bA_some e
  refine a_getN C cb11 5 (by decide) fl_X12_19 rfl dX12_isDoor_4 e1 ?_
  refine a_iconst (v := (0 : Int32)) C dX12_isDoor_7 (by decide) ?_
  obtain ⟨v3, e4, e⟩ := bA_some e
  refine a_iald C dX12_isDoor_8 e4 ?_
  refine a_iconst (v := (1 : Int32)) C dX12_isDoor_9 (by decide) ?_
  refine a_isub C dX12_isDoor_10 ?_
  refine a_i2l C dX12_isDoor_11 ?_
  obtain ⟨r7, h5, e6, e⟩ := b2_some e
  refine a_callS (as := [.long x1.toInt64, .long (0 : Int64), .long ((v3 - (1 : Int32)).toInt64)]) (rest := []) C m_X12_in sm_X12_in ml_X12_63 rfl (Nat.le_of_ble_eq_true rfl) (Nat.le_of_ble_eq_true rfl) (Nat.le_of_ble_eq_true rfl) (Nat.le_of_ble_eq_true rfl) (Nat.le_of_ble_eq_true rfl) dX12_isDoor_12 (k_X12_in e6) rfl ?_
  show AW G lo 0 0 15 [(0, .ref (lo + x0)), (1, .int x1)] [.int r7] h5
  obtain ⟨z13, e14, e⟩ := bA_some e
  obtain ⟨rfl, rfl⟩ := sp2 e
  exact a_zret C q (bz_some e14) (Nat.le_of_ble_eq_true rfl) (Nat.le_of_ble_eq_true rfl) dX12_isDoor_15

set_option maxRecDepth 100000 in
def f_X12_isRoom (h : Hp) (x0 : Nat) (x1 : Int32) : Option (Int32 × Hp) := bA (gN h x0 11 5) fun a2 => bA (ald h a2 0 (1 : Int32)) fun v3 => b2 (f_X12_in h x1.toInt64 (0 : Int64) ((v3 - (1 : Int32)).toInt64)) fun r7 h5 => bA (bz r7) fun z13 => some (r7, h5)

theorem m_X12_isRoom : MI yX12_isRoom cX12_isRoom 2 (some .boolean) 1 := ⟨co_X12_isRoom, ini_X12, by decide, by decide +kernel⟩
set_option maxRecDepth 100000 in
set_option maxHeartbeats 4000000 in
theorem k_X12_isRoom {lo : Nat} {h : Hp} {x0 : Nat} {x1 : Int32} {r : Int32} {h' : Hp} (e : f_X12_isRoom h x0 x1 = some (r, h')) : ∀ l d, AC l d lo yX12_isRoom cX12_isRoom 2 (some .boolean) ({ frames := 1, cells := 0, slots := 0, locals := 25 } : Room) [.ref (lo + x0), .int x1] h (some (.int r)) h' := by
  intro l d
  refine AC_of (by decide) (Nat.le_of_ble_eq_true rfl) ?_
  intro G C _ _ q
  unfold f_X12_isRoom at e
  show AW G lo 0 0 0 [(0, .ref (lo + x0)), (1, .int x1)] [] h
  refine a_iload_n C dX12_isRoom_0 rfl 1 rfl ?_
  refine a_i2l C dX12_isRoom_1 ?_
  refine a_lconst (v := (0 : Int64)) C dX12_isRoom_2 (by decide) ?_
  refine a_aload_n C dX12_isRoom_3 rfl 0 rfl ?_
  obtain ⟨a2, e1, e⟩ := bA_some e
  refine a_getN C cb11 5 (by decide) fl_X12_19 rfl dX12_isRoom_4 e1 ?_
  refine a_iconst (v := (1 : Int32)) C dX12_isRoom_7 (by decide) ?_
  obtain ⟨v3, e4, e⟩ := bA_some e
  refine a_iald C dX12_isRoom_8 e4 ?_
  refine a_iconst (v := (1 : Int32)) C dX12_isRoom_9 (by decide) ?_
  refine a_isub C dX12_isRoom_10 ?_
  refine a_i2l C dX12_isRoom_11 ?_
  obtain ⟨r7, h5, e6, e⟩ := b2_some e
  refine a_callS (as := [.long x1.toInt64, .long (0 : Int64), .long ((v3 - (1 : Int32)).toInt64)]) (rest := []) C m_X12_in sm_X12_in ml_X12_63 rfl (Nat.le_of_ble_eq_true rfl) (Nat.le_of_ble_eq_true rfl) (Nat.le_of_ble_eq_true rfl) (Nat.le_of_ble_eq_true rfl) (Nat.le_of_ble_eq_true rfl) dX12_isRoom_12 (k_X12_in e6) rfl ?_
  show AW G lo 0 0 15 [(0, .ref (lo + x0)), (1, .int x1)] [.int r7] h5
  obtain ⟨z13, e14, e⟩ := bA_some e
  obtain ⟨rfl, rfl⟩ := sp2 e
  exact a_zret C q (bz_some e14) (Nat.le_of_ble_eq_true rfl) (Nat.le_of_ble_eq_true rfl) dX12_isRoom_15

set_option maxRecDepth 100000 in
def f_X12_bits_L4 {β : Type} (k : Int32 → Int32 → Hp → Option (β)) (x0 : Int32) : Nat → Hp → Int32 → Int32 → Option (β)
  | 0, _, _, _ => none
  | fuel + 1, h, x1, x2 => (if (8 : Int32) ≤ x2 then k x1 x2 h else f_X12_bits_L4 k x0 fuel h (x1 + ((x0 >>> (x2 &&& 31)) &&& (1 : Int32))) (x2 + (1 : Int32)))

set_option maxRecDepth 100000 in
def f_X12_bits (h : Hp) (x0 : Int32) : Option (Int32 × Hp) := f_X12_bits_L4 (fun y3 y4 h2 => some (y3, h2)) x0 2000 h (0 : Int32) (0 : Int32)

theorem m_X12_bits : MI yX12_bits cX12_bits 3 (some .int) 1 := ⟨co_X12_bits, ini_X12, by decide, by decide +kernel⟩
set_option maxRecDepth 100000 in
set_option maxHeartbeats 4000000 in
theorem w_X12_bits_L4 {G : Gm} {lo : Nat} {ce sl : Nat} (C : CX G lo cX12_bits RX12 (some .int) ({ frames := 0, cells := 0, slots := 0, locals := 0 } : Room) 3) {β : Type} {res : β} {k : Int32 → Int32 → Hp → Option (β)} {x0 : Int32} (hk : ∀ (h : Hp) (x1 : Int32) (x2 : Int32), k x1 x2 h = some res → AW G lo ce sl 24 [(0, .int x0), (1, .int x1), (2, .int x2)] [] h) (hce : ce ≤ 0) (hsl : sl ≤ 0) : ∀ (fuel : Nat) (h : Hp) (x1 : Int32) (x2 : Int32), f_X12_bits_L4 k x0 fuel h x1 x2 = some res → AW G lo ce sl 4 [(0, .int x0), (1, .int x1), (2, .int x2)] [] h := by
  intro fuel
  induction fuel with
  | zero =>
    intro h x1 x2 e
    cases (show (none : Option (β)) = some res from e)
  | succ fuel ih =>
    intro h x1 x2 e
    rw [f_X12_bits_L4] at e
    refine a_iload_n C dX12_bits_4 rfl 2 rfl ?_
    refine a_bipush (v := (8 : Int32)) C dX12_bits_5 (by decide) ?_
    refine a_icmp_ge (tgt := 24) C dX12_bits_7 (by decide) (fun c1 => ?_) (fun c1 => ?_)
    · have e := ip c1 e
      exact a_sub [0, 1, 2] rfl (hk _ _ _ e)
    · have e := iN c1 e
      refine a_iload_n C dX12_bits_10 rfl 1 rfl ?_
      refine a_iload_n C dX12_bits_11 rfl 0 rfl ?_
      refine a_iload_n C dX12_bits_12 rfl 2 rfl ?_
      refine a_ishr C dX12_bits_13 ?_
      refine a_iconst (v := (1 : Int32)) C dX12_bits_14 (by decide) ?_
      refine a_iand C dX12_bits_15 ?_
      refine a_iadd C dX12_bits_16 ?_
      refine a_istore_n (lv2 := [(1, .int (x1 + ((x0 >>> (x2 &&& 31)) &&& (1 : Int32)))), (0, .int x0), (2, .int x2)]) C dX12_bits_17 rfl (by decide) rfl ?_
      refine a_iinc (v := x2 + (1 : Int32)) (lv2 := [(2, .int (x2 + (1 : Int32))), (1, .int (x1 + ((x0 >>> (x2 &&& 31)) &&& (1 : Int32)))), (0, .int x0)]) C dX12_bits_18 2 rfl rfl (by decide) rfl ?_
      refine a_goto (tgt := 4) C dX12_bits_21 (by decide) ?_
      exact a_sub [2, 1, 0] rfl (ih _ _ _ e)
set_option maxRecDepth 100000 in
set_option maxHeartbeats 4000000 in
theorem k_X12_bits {lo : Nat} {h : Hp} {x0 : Int32} {r : Int32} {h' : Hp} (e : f_X12_bits h x0 = some (r, h')) : ∀ l d, AC l d lo yX12_bits cX12_bits 3 (some .int) ({ frames := 0, cells := 0, slots := 0, locals := 0 } : Room) [.int x0] h (some (.int r)) h' := by
  intro l d
  refine AC_of (by decide) (Nat.le_of_ble_eq_true rfl) ?_
  intro G C _ _ q
  unfold f_X12_bits at e
  show AW G lo 0 0 0 [(0, .int x0)] [] h
  refine a_iconst (v := (0 : Int32)) C dX12_bits_0 (by decide) ?_
  refine a_istore_n (lv2 := [(1, .int (0 : Int32)), (0, .int x0)]) C dX12_bits_1 rfl (by decide) rfl ?_
  refine a_iconst (v := (0 : Int32)) C dX12_bits_2 (by decide) ?_
  refine a_istore_n (lv2 := [(2, .int (0 : Int32)), (1, .int (0 : Int32)), (0, .int x0)]) C dX12_bits_3 rfl (by decide) rfl ?_
  refine a_sub [2, 1, 0] rfl (w_X12_bits_L4 C ?_ (Nat.le_of_ble_eq_true rfl) (Nat.le_of_ble_eq_true rfl) 2000 _ _ _ e)
  intro h2 y3 y4 e
  show AW G lo 0 0 24 [(0, .int x0), (1, .int y3), (2, .int y4)] [] h2
  refine a_iload_n C dX12_bits_24 rfl 1 rfl ?_
  obtain ⟨rfl, rfl⟩ := sp2 e
  exact a_iret C q (Nat.le_of_ble_eq_true rfl) (Nat.le_of_ble_eq_true rfl) dX12_bits_25

set_option maxRecDepth 100000 in
def f_X12_has (h : Hp) (x0 : Int32) (x1 : Int32) : Option (Int32 × Hp) := bA (if ((x0 >>> (x1 &&& 31)) &&& (1 : Int32)) = (1 : Int32) then some (1 : Int32) else some (0 : Int32)) fun j2 => bA (bz j2) fun z5 => some (j2, h)

theorem m_X12_has : MI yX12_has cX12_has 2 (some .boolean) 2 := ⟨co_X12_has, ini_X12, by decide, by decide +kernel⟩
set_option maxRecDepth 100000 in
set_option maxHeartbeats 4000000 in
theorem k_X12_has {lo : Nat} {h : Hp} {x0 : Int32} {x1 : Int32} {r : Int32} {h' : Hp} (e : f_X12_has h x0 x1 = some (r, h')) : ∀ l d, AC l d lo yX12_has cX12_has 2 (some .boolean) ({ frames := 0, cells := 0, slots := 0, locals := 0 } : Room) [.int x0, .int x1] h (some (.int r)) h' := by
  intro l d
  refine AC_of (by decide) (Nat.le_of_ble_eq_true rfl) ?_
  intro G C _ _ q
  unfold f_X12_has at e
  show AW G lo 0 0 0 [(0, .int x0), (1, .int x1)] [] h
  refine a_iload_n C dX12_has_0 rfl 0 rfl ?_
  refine a_iload_n C dX12_has_1 rfl 1 rfl ?_
  refine a_ishr C dX12_has_2 ?_
  refine a_iconst (v := (1 : Int32)) C dX12_has_3 (by decide) ?_
  refine a_iand C dX12_has_4 ?_
  refine a_iconst (v := (1 : Int32)) C dX12_has_5 (by decide) ?_
  obtain ⟨j2, eb4, e⟩ := bA_some e
  have jj3 : AW G lo 0 0 14 [(0, .int x0), (1, .int x1)] [.int j2] h := by
    obtain ⟨z5, e6, e⟩ := bA_some e
    obtain ⟨rfl, rfl⟩ := sp2 e
    exact a_zret C q (bz_some e6) (Nat.le_of_ble_eq_true rfl) (Nat.le_of_ble_eq_true rfl) dX12_has_14
  have e := eb4
  refine a_icmp_ne (tgt := 13) C dX12_has_6 (by decide) (fun c1 => ?_) (fun c1 => ?_)
  · have e := iN c1 e
    refine a_iconst (v := (0 : Int32)) C dX12_has_13 (by decide) ?_
    obtain rfl := sp1 e
    exact a_widen (Nat.le_of_ble_eq_true rfl) (Nat.le_of_ble_eq_true rfl) (a_sub [0, 1] rfl jj3)
  · have e := ip c1 e
    refine a_iconst (v := (1 : Int32)) C dX12_has_9 (by decide) ?_
    refine a_goto (tgt := 14) C dX12_has_10 (by decide) ?_
    obtain rfl := sp1 e
    exact a_widen (Nat.le_of_ble_eq_true rfl) (Nat.le_of_ble_eq_true rfl) (a_sub [0, 1] rfl jj3)

set_option maxRecDepth 100000 in
def f_X12_of (h : Hp) (x0 : Nat) (x1 : Int32) (x2 : Int32) : Option (Int32 × Hp) := bA (ald h x0 0 (((14 : Int32) + ((5 : Int32) * x1)) + x2)) fun v1 => some (v1, h)

theorem m_X12_of : MI yX12_of cX12_of 3 (some .int) 3 := ⟨co_X12_of, ini_X12, by decide, by decide +kernel⟩
set_option maxRecDepth 100000 in
set_option maxHeartbeats 4000000 in
theorem k_X12_of {lo : Nat} {h : Hp} {x0 : Nat} {x1 : Int32} {x2 : Int32} {r : Int32} {h' : Hp} (e : f_X12_of h x0 x1 x2 = some (r, h')) : ∀ l d, AC l d lo yX12_of cX12_of 3 (some .int) ({ frames := 0, cells := 0, slots := 0, locals := 0 } : Room) [.ref (lo + x0), .int x1, .int x2] h (some (.int r)) h' := by
  intro l d
  refine AC_of (by decide) (Nat.le_of_ble_eq_true rfl) ?_
  intro G C _ _ q
  unfold f_X12_of at e
  show AW G lo 0 0 0 [(0, .ref (lo + x0)), (1, .int x1), (2, .int x2)] [] h
  refine a_aload_n C dX12_of_0 rfl 0 rfl ?_
  refine a_bipush (v := (14 : Int32)) C dX12_of_1 (by decide) ?_
  refine a_iconst (v := (5 : Int32)) C dX12_of_3 (by decide) ?_
  refine a_iload_n C dX12_of_4 rfl 1 rfl ?_
  refine a_imul C dX12_of_5 ?_
  refine a_iadd C dX12_of_6 ?_
  refine a_iload_n C dX12_of_7 rfl 2 rfl ?_
  refine a_iadd C dX12_of_8 ?_
  obtain ⟨v1, e2, e⟩ := bA_some e
  refine a_iald C dX12_of_9 e2 ?_
  obtain ⟨rfl, rfl⟩ := sp2 e
  exact a_iret C q (Nat.le_of_ble_eq_true rfl) (Nat.le_of_ble_eq_true rfl) dX12_of_10

set_option maxRecDepth 100000 in
def f_X12_be (h : Hp) (x0 : Nat) (x1 : Int32) (x2 : Int32) (x3 : Int32) : Option (Hp) := bA (ast h x0 0 (((14 : Int32) + ((5 : Int32) * x1)) + x2) x3) fun h1 => some h1

theorem m_X12_be : MI yX12_be cX12_be 4 none 4 := ⟨co_X12_be, ini_X12, by decide, by decide +kernel⟩
set_option maxRecDepth 100000 in
set_option maxHeartbeats 4000000 in
theorem k_X12_be {lo : Nat} {h : Hp} {x0 : Nat} {x1 : Int32} {x2 : Int32} {x3 : Int32} {h' : Hp} (e : f_X12_be h x0 x1 x2 x3 = some h') : ∀ l d, AC l d lo yX12_be cX12_be 4 none ({ frames := 0, cells := 0, slots := 0, locals := 0 } : Room) [.ref (lo + x0), .int x1, .int x2, .int x3] h none h' := by
  intro l d
  refine AC_of (by decide) (Nat.le_of_ble_eq_true rfl) ?_
  intro G C _ _ q
  unfold f_X12_be at e
  show AW G lo 0 0 0 [(0, .ref (lo + x0)), (1, .int x1), (2, .int x2), (3, .int x3)] [] h
  refine a_aload_n C dX12_be_0 rfl 0 rfl ?_
  refine a_bipush (v := (14 : Int32)) C dX12_be_1 (by decide) ?_
  refine a_iconst (v := (5 : Int32)) C dX12_be_3 (by decide) ?_
  refine a_iload_n C dX12_be_4 rfl 1 rfl ?_
  refine a_imul C dX12_be_5 ?_
  refine a_iadd C dX12_be_6 ?_
  refine a_iload_n C dX12_be_7 rfl 2 rfl ?_
  refine a_iadd C dX12_be_8 ?_
  refine a_iload_n C dX12_be_9 rfl 3 rfl ?_
  obtain ⟨h1, e2, e⟩ := bA_some e
  refine a_iast C dX12_be_10 e2 ?_
  obtain rfl := sp1 e
  exact a_vret C q (Nat.le_of_ble_eq_true rfl) (Nat.le_of_ble_eq_true rfl) dX12_be_11

set_option maxRecDepth 100000 in
def f_X12_loudOf (h : Hp) (x0 : Nat) (x1 : Int32) : Option (Int32 × Hp) := b2 (f_X12_of h x0 x1 (3 : Int32)) fun r3 h1 => b2 (f_X12_of h1 x0 x1 (0 : Int32)) fun r11 h9 => (if r11 = (1 : Int32) then some (r3, h9) else (if r11 = (2 : Int32) then some ((r3 / (2 : Int32)), h9) else (if r11 = (3 : Int32) then b2 (f_X12_of h9 x0 x1 (4 : Int32)) fun r23 h21 => some ((r3 + ((2 : Int32) * r23)), h21) else some ((1 : Int32), h9))))

theorem m_X12_loudOf : MI yX12_loudOf cX12_loudOf 3 (some .int) 2 := ⟨co_X12_loudOf, ini_X12, by decide, by decide +kernel⟩
set_option maxRecDepth 100000 in
set_option maxHeartbeats 4000000 in
theorem k_X12_loudOf {lo : Nat} {h : Hp} {x0 : Nat} {x1 : Int32} {r : Int32} {h' : Hp} (e : f_X12_loudOf h x0 x1 = some (r, h')) : ∀ l d, AC l d lo yX12_loudOf cX12_loudOf 3 (some .int) ({ frames := 1, cells := 0, slots := 0, locals := 22 } : Room) [.ref (lo + x0), .int x1] h (some (.int r)) h' := by
  intro l d
  refine AC_of (by decide) (Nat.le_of_ble_eq_true rfl) ?_
  intro G C _ _ q
  unfold f_X12_loudOf at e
  show AW G lo 0 0 0 [(0, .ref (lo + x0)), (1, .int x1)] [] h
  refine a_aload_n C dX12_loudOf_0 rfl 0 rfl ?_
  refine a_iload_n C dX12_loudOf_1 rfl 1 rfl ?_
  refine a_iconst (v := (3 : Int32)) C dX12_loudOf_2 (by decide) ?_
  obtain ⟨r3, h1, e2, e⟩ := b2_some e
  refine a_callS (as := [.ref (lo + x0), .int x1, .int (3 : Int32)]) (rest := []) C m_X12_of sm_X12_of ml_X12_167 rfl (Nat.le_of_ble_eq_true rfl) (Nat.le_of_ble_eq_true rfl) (Nat.le_of_ble_eq_true rfl) (Nat.le_of_ble_eq_true rfl) (Nat.le_of_ble_eq_true rfl) dX12_loudOf_3 (k_X12_of e2) rfl ?_
  show AW G lo 0 0 6 [(0, .ref (lo + x0)), (1, .int x1)] [.int r3] h1
  refine a_istore_n (lv2 := [(2, .int r3), (0, .ref (lo + x0)), (1, .int x1)]) C dX12_loudOf_6 rfl (by decide) rfl ?_
  refine a_aload_n C dX12_loudOf_7 rfl 1 rfl ?_
  refine a_iload_n C dX12_loudOf_8 rfl 2 rfl ?_
  refine a_iconst (v := (0 : Int32)) C dX12_loudOf_9 (by decide) ?_
  obtain ⟨r11, h9, e10, e⟩ := b2_some e
  refine a_callS (as := [.ref (lo + x0), .int x1, .int (0 : Int32)]) (rest := []) C m_X12_of sm_X12_of ml_X12_167 rfl (Nat.le_of_ble_eq_true rfl) (Nat.le_of_ble_eq_true rfl) (Nat.le_of_ble_eq_true rfl) (Nat.le_of_ble_eq_true rfl) (Nat.le_of_ble_eq_true rfl) dX12_loudOf_10 (k_X12_of e10) rfl ?_
  show AW G lo 0 0 13 [(2, .int r3), (0, .ref (lo + x0)), (1, .int x1)] [.int r11] h9
  have hxx17 : r11 = r11 := rfl
  by_cases c18 : r11 = (1 : Int32)
  · have e := ip c18 e
    refine a_tableIn (tgt := 40) C dX12_loudOf_13 (by rw [c18]; decide) (by rw [c18]; decide) (by rw [c18]; first | done | rfl) (by decide) ?_
    refine a_iload_n C dX12_loudOf_40 rfl 0 rfl ?_
    obtain ⟨rfl, rfl⟩ := sp2 e
    exact a_iret C q (Nat.le_of_ble_eq_true rfl) (Nat.le_of_ble_eq_true rfl) dX12_loudOf_41
  have e := iN c18 e
  by_cases c19 : r11 = (2 : Int32)
  · have e := ip c19 e
    refine a_tableIn (tgt := 42) C dX12_loudOf_13 (by rw [c19]; decide) (by rw [c19]; decide) (by rw [c19]; first | done | rfl) (by decide) ?_
    refine a_iload_n C dX12_loudOf_42 rfl 0 rfl ?_
    refine a_iconst (v := (2 : Int32)) C dX12_loudOf_43 (by decide) ?_
    refine a_idiv C dX12_loudOf_44 (by decide) ?_
    obtain ⟨rfl, rfl⟩ := sp2 e
    exact a_iret C q (Nat.le_of_ble_eq_true rfl) (Nat.le_of_ble_eq_true rfl) dX12_loudOf_45
  have e := iN c19 e
  by_cases c20 : r11 = (3 : Int32)
  · have e := ip c20 e
    refine a_tableIn (tgt := 46) C dX12_loudOf_13 (by rw [c20]; decide) (by rw [c20]; decide) (by rw [c20]; first | done | rfl) (by decide) ?_
    refine a_iload_n C dX12_loudOf_46 rfl 0 rfl ?_
    refine a_iconst (v := (2 : Int32)) C dX12_loudOf_47 (by decide) ?_
    refine a_aload_n C dX12_loudOf_48 rfl 1 rfl ?_
    refine a_iload_n C dX12_loudOf_49 rfl 2 rfl ?_
    refine a_iconst (v := (4 : Int32)) C dX12_loudOf_50 (by decide) ?_
    obtain ⟨r23, h21, e22, e⟩ := b2_some e
    refine a_callS (as := [.ref (lo + x0), .int x1, .int (4 : Int32)]) (rest := [.int (2 : Int32), .int r3]) C m_X12_of sm_X12_of ml_X12_167 rfl (Nat.le_of_ble_eq_true rfl) (Nat.le_of_ble_eq_true rfl) (Nat.le_of_ble_eq_true rfl) (Nat.le_of_ble_eq_true rfl) (Nat.le_of_ble_eq_true rfl) dX12_loudOf_51 (k_X12_of e22) rfl ?_
    show AW G lo 0 0 54 [(2, .int r3), (0, .ref (lo + x0)), (1, .int x1)] [.int r23, .int (2 : Int32), .int r3] h21
    refine a_imul C dX12_loudOf_54 ?_
    refine a_iadd C dX12_loudOf_55 ?_
    obtain ⟨rfl, rfl⟩ := sp2 e
    exact a_iret C q (Nat.le_of_ble_eq_true rfl) (Nat.le_of_ble_eq_true rfl) dX12_loudOf_56
  have e := iN c20 e
  refine a_tableOut (tgt := 57) C dX12_loudOf_13 (Classical.byContradiction fun hz => ?_) (by decide) ?_
  · have hz2 : r11.toInt = 1 ∨ r11.toInt = 2 ∨ r11.toInt = 3 := by omega
    rcases hz2 with hz3 | hz3 | hz3
    · exact c18 (Int32.toInt_inj.mp (hz3.trans (by decide)))
    · exact c19 (Int32.toInt_inj.mp (hz3.trans (by decide)))
    · exact c20 (Int32.toInt_inj.mp (hz3.trans (by decide)))
  · refine a_iconst (v := (1 : Int32)) C dX12_loudOf_57 (by decide) ?_
    obtain ⟨rfl, rfl⟩ := sp2 e
    exact a_iret C q (Nat.le_of_ble_eq_true rfl) (Nat.le_of_ble_eq_true rfl) dX12_loudOf_58

set_option maxRecDepth 100000 in
def f_X12_gapOf (h : Hp) (x0 : Nat) (x1 : Int32) : Option (Int32 × Hp) := b2 (f_X12_of h x0 x1 (0 : Int32)) fun r3 h1 => bA (if r3 = (2 : Int32) then some (2 : Int32) else (if r3 = (5 : Int32) then some (0 : Int32) else some (1 : Int32))) fun j10 => some (j10, h1)

theorem m_X12_gapOf : MI yX12_gapOf cX12_gapOf 3 (some .int) 2 := ⟨co_X12_gapOf, ini_X12, by decide, by decide +kernel⟩
set_option maxRecDepth 100000 in
set_option maxHeartbeats 4000000 in
theorem k_X12_gapOf {lo : Nat} {h : Hp} {x0 : Nat} {x1 : Int32} {r : Int32} {h' : Hp} (e : f_X12_gapOf h x0 x1 = some (r, h')) : ∀ l d, AC l d lo yX12_gapOf cX12_gapOf 3 (some .int) ({ frames := 1, cells := 0, slots := 0, locals := 22 } : Room) [.ref (lo + x0), .int x1] h (some (.int r)) h' := by
  intro l d
  refine AC_of (by decide) (Nat.le_of_ble_eq_true rfl) ?_
  intro G C _ _ q
  unfold f_X12_gapOf at e
  show AW G lo 0 0 0 [(0, .ref (lo + x0)), (1, .int x1)] [] h
  refine a_aload_n C dX12_gapOf_0 rfl 0 rfl ?_
  refine a_iload_n C dX12_gapOf_1 rfl 1 rfl ?_
  refine a_iconst (v := (0 : Int32)) C dX12_gapOf_2 (by decide) ?_
  obtain ⟨r3, h1, e2, e⟩ := b2_some e
  refine a_callS (as := [.ref (lo + x0), .int x1, .int (0 : Int32)]) (rest := []) C m_X12_of sm_X12_of ml_X12_167 rfl (Nat.le_of_ble_eq_true rfl) (Nat.le_of_ble_eq_true rfl) (Nat.le_of_ble_eq_true rfl) (Nat.le_of_ble_eq_true rfl) (Nat.le_of_ble_eq_true rfl) dX12_gapOf_3 (k_X12_of e2) rfl ?_
  show AW G lo 0 0 6 [(0, .ref (lo + x0)), (1, .int x1)] [.int r3] h1
  refine a_istore_n (lv2 := [(2, .int r3), (0, .ref (lo + x0)), (1, .int x1)]) C dX12_gapOf_6 rfl (by decide) rfl ?_
  refine a_iload_n C dX12_gapOf_7 rfl 0 rfl ?_
  refine a_iconst (v := (2 : Int32)) C dX12_gapOf_8 (by decide) ?_
  obtain ⟨j10, eb12, e⟩ := bA_some e
  have jj11 : AW G lo 0 0 26 [(0, .ref (lo + x0)), (1, .int x1), (2, .int r3)] [.int j10] h1 := by
    obtain ⟨rfl, rfl⟩ := sp2 e
    exact a_iret C q (Nat.le_of_ble_eq_true rfl) (Nat.le_of_ble_eq_true rfl) dX12_gapOf_26
  have e := eb12
  refine a_icmp_ne (tgt := 16) C dX12_gapOf_9 (by decide) (fun c9 => ?_) (fun c9 => ?_)
  · have e := iN c9 e
    refine a_iload_n C dX12_gapOf_16 rfl 0 rfl ?_
    refine a_iconst (v := (5 : Int32)) C dX12_gapOf_17 (by decide) ?_
    refine a_icmp_ne (tgt := 25) C dX12_gapOf_18 (by decide) (fun c13 => ?_) (fun c13 => ?_)
    · have e := iN c13 e
      refine a_iconst (v := (1 : Int32)) C dX12_gapOf_25 (by decide) ?_
      obtain rfl := sp1 e
      exact a_widen (Nat.le_of_ble_eq_true rfl) (Nat.le_of_ble_eq_true rfl) (a_sub [1, 2, 0] rfl jj11)
    · have e := ip c13 e
      refine a_iconst (v := (0 : Int32)) C dX12_gapOf_21 (by decide) ?_
      refine a_goto (tgt := 26) C dX12_gapOf_22 (by decide) ?_
      obtain rfl := sp1 e
      exact a_widen (Nat.le_of_ble_eq_true rfl) (Nat.le_of_ble_eq_true rfl) (a_sub [1, 2, 0] rfl jj11)
  · have e := ip c9 e
    refine a_iconst (v := (2 : Int32)) C dX12_gapOf_12 (by decide) ?_
    refine a_goto (tgt := 26) C dX12_gapOf_13 (by decide) ?_
    obtain rfl := sp1 e
    exact a_widen (Nat.le_of_ble_eq_true rfl) (Nat.le_of_ble_eq_true rfl) (a_sub [1, 2, 0] rfl jj11)

set_option maxRecDepth 100000 in
def f_X12_isOpen_L2 (k : Int32 → Hp → Option (Int32 × Hp)) (x0 : Nat) (x1 : Int32) : Nat → Hp → Int32 → Option (Int32 × Hp)
  | 0, _, _ => none
  | fuel + 1, h, x2 => bA (gI h x0 11 21) fun g2 => (if g2 ≤ x2 then k x2 h else bA (gN h x0 11 20) fun a5 => bA (ald h a5 0 x2) fun v6 => (if v6 = x1 then some ((1 : Int32), h) else f_X12_isOpen_L2 k x0 x1 fuel h (x2 + (1 : Int32))))

set_option maxRecDepth 100000 in
def f_X12_isOpen (h : Hp) (x0 : Nat) (x1 : Int32) : Option (Int32 × Hp) := f_X12_isOpen_L2 (fun y10 h9 => some ((0 : Int32), h9)) x0 x1 2000 h (0 : Int32)

theorem m_X12_isOpen : MI yX12_isOpen cX12_isOpen 3 (some .boolean) 1 := ⟨co_X12_isOpen, ini_X12, by decide, by decide +kernel⟩
set_option maxRecDepth 100000 in
set_option maxHeartbeats 4000000 in
theorem w_X12_isOpen_L2 {G : Gm} {lo : Nat} {ce sl : Nat} (C : CX G lo cX12_isOpen RX12 (some .boolean) ({ frames := 0, cells := 0, slots := 0, locals := 0 } : Room) 3) {r : Int32} {h' : Hp} {k : Int32 → Hp → Option (Int32 × Hp)} {x0 : Nat} {x1 : Int32} (q : RQ G lo (some (.int r)) h' 0 0) (hk : ∀ (h : Hp) (x2 : Int32), k x2 h = some (r, h') → AW G lo ce sl 28 [(0, .ref (lo + x0)), (1, .int x1), (2, .int x2)] [] h) (hce : ce ≤ 0) (hsl : sl ≤ 0) : ∀ (fuel : Nat) (h : Hp) (x2 : Int32), f_X12_isOpen_L2 k x0 x1 fuel h x2 = some (r, h') → AW G lo ce sl 2 [(0, .ref (lo + x0)), (1, .int x1), (2, .int x2)] [] h := by
  intro fuel
  induction fuel with
  | zero =>
    intro h x2 e
    cases (show (none : Option (Int32 × Hp)) = some (r, h') from e)
  | succ fuel ih =>
    intro h x2 e
    rw [f_X12_isOpen_L2] at e
    refine a_iload_n C dX12_isOpen_2 rfl 2 rfl ?_
    refine a_aload_n C dX12_isOpen_3 rfl 0 rfl ?_
    obtain ⟨g2, e1, e⟩ := bA_some e
    refine a_getI C cb11 21 (by decide) fl_X12_171 rfl dX12_isOpen_4 e1 ?_
    refine a_icmp_ge (tgt := 28) C dX12_isOpen_7 (by decide) (fun c3 => ?_) (fun c3 => ?_)
    · have e := ip c3 e
      exact a_sub [0, 1, 2] rfl (hk _ _ e)
    · have e := iN c3 e
      refine a_aload_n C dX12_isOpen_10 rfl 0 rfl ?_
      obtain ⟨a5, e4, e⟩ := bA_some e
      refine a_getN C cb11 20 (by decide) fl_X12_37 rfl dX12_isOpen_11 e4 ?_
      refine a_iload_n C dX12_isOpen_14 rfl 2 rfl ?_
      obtain ⟨v6, e7, e⟩ := bA_some e
      refine a_iald C dX12_isOpen_15 e7 ?_
      refine a_iload_n C dX12_isOpen_16 rfl 1 rfl ?_
      refine a_icmp_ne (tgt := 22) C dX12_isOpen_17 (by decide) (fun c8 => ?_) (fun c8 => ?_)
      · have e := iN c8 e
        refine a_iinc (v := x2 + (1 : Int32)) (lv2 := [(2, .int (x2 + (1 : Int32))), (0, .ref (lo + x0)), (1, .int x1)]) C dX12_isOpen_22 2 rfl rfl (by decide) rfl ?_
        refine a_goto (tgt := 2) C dX12_isOpen_25 (by decide) ?_
        exact a_sub [1, 2, 0] rfl (ih _ _ e)
      · have e := ip c8 e
        refine a_iconst (v := (1 : Int32)) C dX12_isOpen_20 (by decide) ?_
        obtain ⟨rfl, rfl⟩ := sp2 e
        exact a_zret C q (by decide) (by exact hce) (by exact hsl) dX12_isOpen_21
set_option maxRecDepth 100000 in
set_option maxHeartbeats 4000000 in
theorem k_X12_isOpen {lo : Nat} {h : Hp} {x0 : Nat} {x1 : Int32} {r : Int32} {h' : Hp} (e : f_X12_isOpen h x0 x1 = some (r, h')) : ∀ l d, AC l d lo yX12_isOpen cX12_isOpen 3 (some .boolean) ({ frames := 0, cells := 0, slots := 0, locals := 0 } : Room) [.ref (lo + x0), .int x1] h (some (.int r)) h' := by
  intro l d
  refine AC_of (by decide) (Nat.le_of_ble_eq_true rfl) ?_
  intro G C _ _ q
  unfold f_X12_isOpen at e
  show AW G lo 0 0 0 [(0, .ref (lo + x0)), (1, .int x1)] [] h
  refine a_iconst (v := (0 : Int32)) C dX12_isOpen_0 (by decide) ?_
  refine a_istore_n (lv2 := [(2, .int (0 : Int32)), (0, .ref (lo + x0)), (1, .int x1)]) C dX12_isOpen_1 rfl (by decide) rfl ?_
  refine a_sub [1, 2, 0] rfl (w_X12_isOpen_L2 C q ?_ (Nat.le_of_ble_eq_true rfl) (Nat.le_of_ble_eq_true rfl) 2000 _ _ e)
  intro h9 y10 e
  show AW G lo 0 0 28 [(0, .ref (lo + x0)), (1, .int x1), (2, .int y10)] [] h9
  refine a_iconst (v := (0 : Int32)) C dX12_isOpen_28 (by decide) ?_
  obtain ⟨rfl, rfl⟩ := sp2 e
  exact a_zret C q (by decide) (Nat.le_of_ble_eq_true rfl) (Nat.le_of_ble_eq_true rfl) dX12_isOpen_29

set_option maxRecDepth 100000 in
def f_X12_draughtNow_L4 {β : Type} (k : Int32 → Int32 → Hp → Option (β)) (x0 : Nat) (x1 : Nat) : Nat → Hp → Int32 → Int32 → Option (β)
  | 0, _, _, _ => none
  | fuel + 1, h, x2, x3 => bA (gI h x0 11 21) fun g2 => (if g2 ≤ x3 then k x2 x3 h else bA (gN h x0 11 20) fun a5 => bA (ald h a5 0 x3) fun v6 => b2 (f_X12_gapOf h x1 v6) fun r10 h8 => f_X12_draughtNow_L4 k x0 x1 fuel h8 (x2 + r10) (x3 + (1 : Int32)))

set_option maxRecDepth 100000 in
def f_X12_draughtNow (h : Hp) (x0 : Nat) (x1 : Nat) : Option (Int32 × Hp) := f_X12_draughtNow_L4 (fun y17 y18 h16 => some (y17, h16)) x0 x1 2000 h (0 : Int32) (0 : Int32)

theorem m_X12_draughtNow : MI yX12_draughtNow cX12_draughtNow 4 (some .int) 1 := ⟨co_X12_draughtNow, ini_X12, by decide, by decide +kernel⟩
set_option maxRecDepth 100000 in
set_option maxHeartbeats 4000000 in
theorem w_X12_draughtNow_L4 {G : Gm} {lo : Nat} {ce sl : Nat} (C : CX G lo cX12_draughtNow RX12 (some .int) ({ frames := 2, cells := 0, slots := 0, locals := 44 } : Room) 4) {β : Type} {res : β} {k : Int32 → Int32 → Hp → Option (β)} {x0 : Nat} {x1 : Nat} (hk : ∀ (h : Hp) (x2 : Int32) (x3 : Int32), k x2 x3 h = some res → AW G lo ce sl 31 [(0, .ref (lo + x0)), (1, .ref (lo + x1)), (2, .int x2), (3, .int x3)] [] h) (hce : ce ≤ 0) (hsl : sl ≤ 0) : ∀ (fuel : Nat) (h : Hp) (x2 : Int32) (x3 : Int32), f_X12_draughtNow_L4 k x0 x1 fuel h x2 x3 = some res → AW G lo ce sl 4 [(0, .ref (lo + x0)), (1, .ref (lo + x1)), (2, .int x2), (3, .int x3)] [] h := by
  intro fuel
  induction fuel with
  | zero =>
    intro h x2 x3 e
    cases (show (none : Option (β)) = some res from e)
  | succ fuel ih =>
    intro h x2 x3 e
    rw [f_X12_draughtNow_L4] at e
    refine a_iload_n C dX12_draughtNow_4 rfl 3 rfl ?_
    refine a_aload_n C dX12_draughtNow_5 rfl 0 rfl ?_
    obtain ⟨g2, e1, e⟩ := bA_some e
    refine a_getI C cb11 21 (by decide) fl_X12_171 rfl dX12_draughtNow_6 e1 ?_
    refine a_icmp_ge (tgt := 31) C dX12_draughtNow_9 (by decide) (fun c3 => ?_) (fun c3 => ?_)
    · have e := ip c3 e
      exact a_sub [0, 1, 2, 3] rfl (hk _ _ _ e)
    · have e := iN c3 e
      refine a_iload_n C dX12_draughtNow_12 rfl 2 rfl ?_
      refine a_aload_n C dX12_draughtNow_13 rfl 1 rfl ?_
      refine a_aload_n C dX12_draughtNow_14 rfl 0 rfl ?_
      obtain ⟨a5, e4, e⟩ := bA_some e
      refine a_getN C cb11 20 (by decide) fl_X12_37 rfl dX12_draughtNow_15 e4 ?_
      refine a_iload_n C dX12_draughtNow_18 rfl 3 rfl ?_
      obtain ⟨v6, e7, e⟩ := bA_some e
      refine a_iald C dX12_draughtNow_19 e7 ?_
      obtain ⟨r10, h8, e9, e⟩ := b2_some e
      refine a_callS (as := [.ref (lo + x1), .int v6]) (rest := [.int x2]) C m_X12_gapOf sm_X12_gapOf ml_X12_174 rfl (Nat.le_of_ble_eq_true rfl) (Nat.le_of_ble_eq_true rfl) (by exact hce) (by exact hsl) (Nat.le_of_ble_eq_true rfl) dX12_draughtNow_20 (k_X12_gapOf e9) rfl ?_
      show AW G lo ce sl 23 [(0, .ref (lo + x0)), (1, .ref (lo + x1)), (2, .int x2), (3, .int x3)] [.int r10, .int x2] h8
      refine a_iadd C dX12_draughtNow_23 ?_
      refine a_istore_n (lv2 := [(2, .int (x2 + r10)), (0, .ref (lo + x0)), (1, .ref (lo + x1)), (3, .int x3)]) C dX12_draughtNow_24 rfl (by decide) rfl ?_
      refine a_iinc (v := x3 + (1 : Int32)) (lv2 := [(3, .int (x3 + (1 : Int32))), (2, .int (x2 + r10)), (0, .ref (lo + x0)), (1, .ref (lo + x1))]) C dX12_draughtNow_25 3 rfl rfl (by decide) rfl ?_
      refine a_goto (tgt := 4) C dX12_draughtNow_28 (by decide) ?_
      exact a_sub [2, 3, 1, 0] rfl (ih _ _ _ e)
set_option maxRecDepth 100000 in
set_option maxHeartbeats 4000000 in
theorem k_X12_draughtNow {lo : Nat} {h : Hp} {x0 : Nat} {x1 : Nat} {r : Int32} {h' : Hp} (e : f_X12_draughtNow h x0 x1 = some (r, h')) : ∀ l d, AC l d lo yX12_draughtNow cX12_draughtNow 4 (some .int) ({ frames := 2, cells := 0, slots := 0, locals := 44 } : Room) [.ref (lo + x0), .ref (lo + x1)] h (some (.int r)) h' := by
  intro l d
  refine AC_of (by decide) (Nat.le_of_ble_eq_true rfl) ?_
  intro G C _ _ q
  unfold f_X12_draughtNow at e
  show AW G lo 0 0 0 [(0, .ref (lo + x0)), (1, .ref (lo + x1))] [] h
  refine a_iconst (v := (0 : Int32)) C dX12_draughtNow_0 (by decide) ?_
  refine a_istore_n (lv2 := [(2, .int (0 : Int32)), (0, .ref (lo + x0)), (1, .ref (lo + x1))]) C dX12_draughtNow_1 rfl (by decide) rfl ?_
  refine a_iconst (v := (0 : Int32)) C dX12_draughtNow_2 (by decide) ?_
  refine a_istore_n (lv2 := [(3, .int (0 : Int32)), (2, .int (0 : Int32)), (0, .ref (lo + x0)), (1, .ref (lo + x1))]) C dX12_draughtNow_3 rfl (by decide) rfl ?_
  refine a_sub [2, 3, 1, 0] rfl (w_X12_draughtNow_L4 C ?_ (Nat.le_of_ble_eq_true rfl) (Nat.le_of_ble_eq_true rfl) 2000 _ _ _ e)
  intro h16 y17 y18 e
  show AW G lo 0 0 31 [(0, .ref (lo + x0)), (1, .ref (lo + x1)), (2, .int y17), (3, .int y18)] [] h16
  refine a_iload_n C dX12_draughtNow_31 rfl 2 rfl ?_
  obtain ⟨rfl, rfl⟩ := sp2 e
  exact a_iret C q (Nat.le_of_ble_eq_true rfl) (Nat.le_of_ble_eq_true rfl) dX12_draughtNow_32

set_option maxRecDepth 100000 in
def f_X12_open (h : Hp) (x0 : Nat) (x1 : Nat) (x2 : Int32) : Option (Int32 × Hp) := b2 (f_X12_of h x1 x2 (0 : Int32)) fun r3 h1 => bA (if r3 < (4 : Int32) then some (0 : Int32) else some (1 : Int32)) fun j10 => (if j10 = 0 then b2 (f_X12_of h1 x1 x2 (0 : Int32)) fun r16 h14 => (if r16 = (5 : Int32) then b2 (f_X12_of h14 x1 x2 (4 : Int32)) fun r93 h91 => (if r93 ≤ 0 then bA (gI h91 x0 11 22) fun g101 => b2 (f_X12_loudOf h91 x1 x2) fun r104 h102 => bA (pV h102 x0 11 22 (.inl (g101 + r104))) fun h111 => b2 (f_X12_of h111 x1 x2 (4 : Int32)) fun r114 h112 => bA (f_X12_be h112 x1 x2 (4 : Int32) (r114 + (1 : Int32))) fun h120 => bA (gN h120 x0 11 20) fun a129 => bA (gI h120 x0 11 21) fun g131 => bA (ast h120 a129 0 g131 x2) fun h132 => bA (gI h132 x0 11 21) fun g135 => bA (pV h132 x0 11 21 (.inl (g135 + (1 : Int32)))) fun h137 => bA (isC h137 x0 11) fun u144 => b2 (f_X12_draughtNow h137 x0 x1) fun r140 h138 => bA (gI h138 x0 11 23) fun g148 => bA (if r140 ≤ g148 then bA (gI h138 x0 11 23) fun g154 => some g154 else some r140) fun j150 => bA (pV h138 x0 11 23 (.inl j150)) fun h156 => bA (gI h156 x0 11 22) fun g158 => bA (ald h156 x1 0 (3 : Int32)) fun v159 => bA (if g158 ≤ v159 then bA (ald h156 x1 0 (2 : Int32)) fun v165 => (if r140 ≤ v165 then some (0 : Int32) else some (10 : Int32)) else some (9 : Int32)) fun j162 => some (j162, h156) else some ((8 : Int32), h91)) else bA (gI h14 x0 11 22) fun g24 => b2 (f_X12_loudOf h14 x1 x2) fun r27 h25 => bA (pV h25 x0 11 22 (.inl (g24 + r27))) fun h34 => b2 (f_X12_of h34 x1 x2 (4 : Int32)) fun r37 h35 => bA (f_X12_be h35 x1 x2 (4 : Int32) (r37 + (1 : Int32))) fun h43 => bA (gN h43 x0 11 20) fun a52 => bA (gI h43 x0 11 21) fun g54 => bA (ast h43 a52 0 g54 x2) fun h55 => bA (gI h55 x0 11 21) fun g58 => bA (pV h55 x0 11 21 (.inl (g58 + (1 : Int32)))) fun h60 => bA (isC h60 x0 11) fun u67 => b2 (f_X12_draughtNow h60 x0 x1) fun r63 h61 => bA (gI h61 x0 11 23) fun g71 => bA (if r63 ≤ g71 then bA (gI h61 x0 11 23) fun g77 => some g77 else some r63) fun j73 => bA (pV h61 x0 11 23 (.inl j73)) fun h79 => bA (gI h79 x0 11 22) fun g81 => bA (ald h79 x1 0 (3 : Int32)) fun v82 => bA (if g81 ≤ v82 then bA (ald h79 x1 0 (2 : Int32)) fun v88 => (if r63 ≤ v88 then some (0 : Int32) else some (10 : Int32)) else some (9 : Int32)) fun j85 => some (j85, h79)) else bA (ald h1 x1 0 (4 : Int32)) fun v168 => b2 (f_X12_of h1 x1 x2 (3 : Int32)) fun r172 h170 => b2 (f_X12_has h170 v168 (r172 - r172 / (6 : Int32) * (6 : Int32))) fun r180 h178 => (if r180 = 0 then some ((7 : Int32), h178) else b2 (f_X12_of h178 x1 x2 (0 : Int32)) fun r189 h187 => (if r189 = (5 : Int32) then b2 (f_X12_of h187 x1 x2 (4 : Int32)) fun r266 h264 => (if r266 ≤ 0 then bA (gI h264 x0 11 22) fun g274 => b2 (f_X12_loudOf h264 x1 x2) fun r277 h275 => bA (pV h275 x0 11 22 (.inl (g274 + r277))) fun h284 => b2 (f_X12_of h284 x1 x2 (4 : Int32)) fun r287 h285 => bA (f_X12_be h285 x1 x2 (4 : Int32) (r287 + (1 : Int32))) fun h293 => bA (gN h293 x0 11 20) fun a302 => bA (gI h293 x0 11 21) fun g304 => bA (ast h293 a302 0 g304 x2) fun h305 => bA (gI h305 x0 11 21) fun g308 => bA (pV h305 x0 11 21 (.inl (g308 + (1 : Int32)))) fun h310 => bA (isC h310 x0 11) fun u317 => b2 (f_X12_draughtNow h310 x0 x1) fun r313 h311 => bA (gI h311 x0 11 23) fun g321 => bA (if r313 ≤ g321 then bA (gI h311 x0 11 23) fun g327 => some g327 else some r313) fun j323 => bA (pV h311 x0 11 23 (.inl j323)) fun h329 => bA (gI h329 x0 11 22) fun g331 => bA (ald h329 x1 0 (3 : Int32)) fun v332 => bA (if g331 ≤ v332 then bA (ald h329 x1 0 (2 : Int32)) fun v338 => (if r313 ≤ v338 then some (0 : Int32) else some (10 : Int32)) else some (9 : Int32)) fun j335 => some (j335, h329) else some ((8 : Int32), h264)) else bA (gI h187 x0 11 22) fun g197 => b2 (f_X12_loudOf h187 x1 x2) fun r200 h198 => bA (pV h198 x0 11 22 (.inl (g197 + r200))) fun h207 => b2 (f_X12_of h207 x1 x2 (4 : Int32)) fun r210 h208 => bA (f_X12_be h208 x1 x2 (4 : Int32) (r210 + (1 : Int32))) fun h216 => bA (gN h216 x0 11 20) fun a225 => bA (gI h216 x0 11 21) fun g227 => bA (ast h216 a225 0 g227 x2) fun h228 => bA (gI h228 x0 11 21) fun g231 => bA (pV h228 x0 11 21 (.inl (g231 + (1 : Int32)))) fun h233 => bA (isC h233 x0 11) fun u240 => b2 (f_X12_draughtNow h233 x0 x1) fun r236 h234 => bA (gI h234 x0 11 23) fun g244 => bA (if r236 ≤ g244 then bA (gI h234 x0 11 23) fun g250 => some g250 else some r236) fun j246 => bA (pV h234 x0 11 23 (.inl j246)) fun h252 => bA (gI h252 x0 11 22) fun g254 => bA (ald h252 x1 0 (3 : Int32)) fun v255 => bA (if g254 ≤ v255 then bA (ald h252 x1 0 (2 : Int32)) fun v261 => (if r236 ≤ v261 then some (0 : Int32) else some (10 : Int32)) else some (9 : Int32)) fun j258 => some (j258, h252))))

theorem m_X12_open : MI yX12_open cX12_open 5 (some .int) 2 := ⟨co_X12_open, ini_X12, by decide, by decide +kernel⟩
set_option maxRecDepth 100000 in
set_option maxHeartbeats 4000000 in
theorem k_X12_open {lo : Nat} {h : Hp} {x0 : Nat} {x1 : Nat} {x2 : Int32} {r : Int32} {h' : Hp} (e : f_X12_open h x0 x1 x2 = some (r, h')) : ∀ l d, AC l d lo yX12_open cX12_open 5 (some .int) ({ frames := 3, cells := 0, slots := 0, locals := 67 } : Room) [.ref (lo + x0), .ref (lo + x1), .int x2] h (some (.int r)) h' := by
  intro l d
  refine AC_of (by decide) (Nat.le_of_ble_eq_true rfl) ?_
  intro G C _ _ q
  unfold f_X12_open at e
  show AW G lo 0 0 0 [(0, .ref (lo + x0)), (1, .ref (lo + x1)), (2, .int x2)] [] h
  refine a_aload_n C dX12_open_0 rfl 1 rfl ?_
  refine a_iload_n C dX12_open_1 rfl 2 rfl ?_
  refine a_iconst (v := (0 : Int32)) C dX12_open_2 (by decide) ?_
  obtain ⟨r3, h1, e2, e⟩ := b2_some e
  refine a_callS (as := [.ref (lo + x1), .int x2, .int (0 : Int32)]) (rest := []) C m_X12_of sm_X12_of ml_X12_167 rfl (Nat.le_of_ble_eq_true rfl) (Nat.le_of_ble_eq_true rfl) (Nat.le_of_ble_eq_true rfl) (Nat.le_of_ble_eq_true rfl) (Nat.le_of_ble_eq_true rfl) dX12_open_3 (k_X12_of e2) rfl ?_
  show AW G lo 0 0 6 [(0, .ref (lo + x0)), (1, .ref (lo + x1)), (2, .int x2)] [.int r3] h1
  refine a_iconst (v := (4 : Int32)) C dX12_open_6 (by decide) ?_
  obtain ⟨j10, eb12, e⟩ := bA_some e
  have jj11 : AW G lo 0 0 15 [(0, .ref (lo + x0)), (1, .ref (lo + x1)), (2, .int x2)] [.int j10] h1 := by
    refine a_istore_n (lv2 := [(3, .int j10), (0, .ref (lo + x0)), (1, .ref (lo + x1)), (2, .int x2)]) C dX12_open_15 rfl (by decide) rfl ?_
    refine a_iload_n C dX12_open_16 rfl 0 rfl ?_
    refine a_if_eq (tgt := 41) C dX12_open_17 (by decide) (fun c13 => ?_) (fun c13 => ?_)
    · have e := ip c13 e
      refine a_aload_n C dX12_open_41 rfl 2 rfl ?_
      refine a_iload_n C dX12_open_42 rfl 3 rfl ?_
      refine a_iconst (v := (0 : Int32)) C dX12_open_43 (by decide) ?_
      obtain ⟨r16, h14, e15, e⟩ := b2_some e
      refine a_callS (as := [.ref (lo + x1), .int x2, .int (0 : Int32)]) (rest := []) C m_X12_of sm_X12_of ml_X12_167 rfl (Nat.le_of_ble_eq_true rfl) (Nat.le_of_ble_eq_true rfl) (Nat.le_of_ble_eq_true rfl) (Nat.le_of_ble_eq_true rfl) (Nat.le_of_ble_eq_true rfl) dX12_open_44 (k_X12_of e15) rfl ?_
      show AW G lo 0 0 47 [(3, .int j10), (0, .ref (lo + x0)), (1, .ref (lo + x1)), (2, .int x2)] [.int r16] h14
      refine a_iconst (v := (5 : Int32)) C dX12_open_47 (by decide) ?_
      refine a_icmp_ne (tgt := 63) C dX12_open_48 (by decide) (fun c22 => ?_) (fun c22 => ?_)
      · have e := iN c22 e
        refine a_aload_n C dX12_open_63 rfl 1 rfl ?_
        refine a_dup C dX12_open_64 rfl ?_
        obtain ⟨g24, e23, e⟩ := bA_some e
        refine a_getI C cb11 22 (by decide) fl_X12_182 rfl dX12_open_65 e23 ?_
        refine a_aload_n C dX12_open_68 rfl 2 rfl ?_
        refine a_iload_n C dX12_open_69 rfl 3 rfl ?_
        obtain ⟨r27, h25, e26, e⟩ := b2_some e
        refine a_callS (as := [.ref (lo + x1), .int x2]) (rest := [.int g24, .ref (lo + x0)]) C m_X12_loudOf sm_X12_loudOf ml_X12_185 rfl (Nat.le_of_ble_eq_true rfl) (Nat.le_of_ble_eq_true rfl) (Nat.le_of_ble_eq_true rfl) (Nat.le_of_ble_eq_true rfl) (Nat.le_of_ble_eq_true rfl) dX12_open_70 (k_X12_loudOf e26) rfl ?_
        show AW G lo 0 0 73 [(3, .int j10), (0, .ref (lo + x0)), (1, .ref (lo + x1)), (2, .int x2)] [.int r27, .int g24, .ref (lo + x0)] h25
        refine a_iadd C dX12_open_73 ?_
        obtain ⟨h34, e33, e⟩ := bA_some e
        refine a_putI C cb11 22 (by decide) fl_X12_182 rfl (by decide +kernel) dX12_open_74 e33 ?_
        refine a_aload_n C dX12_open_77 rfl 2 rfl ?_
        refine a_iload_n C dX12_open_78 rfl 3 rfl ?_
        refine a_iconst (v := (4 : Int32)) C dX12_open_79 (by decide) ?_
        refine a_aload_n C dX12_open_80 rfl 2 rfl ?_
        refine a_iload_n C dX12_open_81 rfl 3 rfl ?_
        refine a_iconst (v := (4 : Int32)) C dX12_open_82 (by decide) ?_
        obtain ⟨r37, h35, e36, e⟩ := b2_some e
        refine a_callS (as := [.ref (lo + x1), .int x2, .int (4 : Int32)]) (rest := [.int (4 : Int32), .int x2, .ref (lo + x1)]) C m_X12_of sm_X12_of ml_X12_167 rfl (Nat.le_of_ble_eq_true rfl) (Nat.le_of_ble_eq_true rfl) (Nat.le_of_ble_eq_true rfl) (Nat.le_of_ble_eq_true rfl) (Nat.le_of_ble_eq_true rfl) dX12_open_83 (k_X12_of e36) rfl ?_
        show AW G lo 0 0 86 [(3, .int j10), (0, .ref (lo + x0)), (1, .ref (lo + x1)), (2, .int x2)] [.int r37, .int (4 : Int32), .int x2, .ref (lo + x1)] h35
        refine a_iconst (v := (1 : Int32)) C dX12_open_86 (by decide) ?_
        refine a_iadd C dX12_open_87 ?_
        obtain ⟨h43, e44, e⟩ := bA_some e
        refine a_callS (as := [.ref (lo + x1), .int x2, .int (4 : Int32), .int (r37 + (1 : Int32))]) (rest := []) C m_X12_be sm_X12_be ml_X12_188 rfl (Nat.le_of_ble_eq_true rfl) (Nat.le_of_ble_eq_true rfl) (Nat.le_of_ble_eq_true rfl) (Nat.le_of_ble_eq_true rfl) (Nat.le_of_ble_eq_true rfl) dX12_open_88 (k_X12_be e44) rfl ?_
        show AW G lo 0 0 91 [(3, .int j10), (0, .ref (lo + x0)), (1, .ref (lo + x1)), (2, .int x2)] [] h43
        refine a_aload_n C dX12_open_91 rfl 1 rfl ?_
        obtain ⟨a52, e51, e⟩ := bA_some e
        refine a_getN C cb11 20 (by decide) fl_X12_37 rfl dX12_open_92 e51 ?_
        refine a_aload_n C dX12_open_95 rfl 1 rfl ?_
        obtain ⟨g54, e53, e⟩ := bA_some e
        refine a_getI C cb11 21 (by decide) fl_X12_171 rfl dX12_open_96 e53 ?_
        refine a_iload_n C dX12_open_99 rfl 3 rfl ?_
        obtain ⟨h55, e56, e⟩ := bA_some e
        refine a_iast C dX12_open_100 e56 ?_
        refine a_aload_n C dX12_open_101 rfl 1 rfl ?_
        refine a_dup C dX12_open_102 rfl ?_
        obtain ⟨g58, e57, e⟩ := bA_some e
        refine a_getI C cb11 21 (by decide) fl_X12_171 rfl dX12_open_103 e57 ?_
        refine a_iconst (v := (1 : Int32)) C dX12_open_106 (by decide) ?_
        refine a_iadd C dX12_open_107 ?_
        obtain ⟨h60, e59, e⟩ := bA_some e
        refine a_putI C cb11 21 (by decide) fl_X12_171 rfl (by decide +kernel) dX12_open_108 e59 ?_
        refine a_aload_n C dX12_open_111 rfl 1 rfl ?_
        refine a_aload_n C dX12_open_112 rfl 2 rfl ?_
        obtain ⟨u67, ec66, e⟩ := bA_some e
        obtain ⟨fs65, eo64⟩ := isC_some ec66
        obtain ⟨r63, h61, e62, e⟩ := b2_some e
        refine a_callV (as := [.ref (lo + x1)]) (rest := []) C m_X12_draughtNow im_X12_draughtNow cb11 se_X12_X12_draughtNow_X12_draughtNow ml_X12_192 rfl (Nat.le_of_ble_eq_true rfl) (Nat.le_of_ble_eq_true rfl) (Nat.le_of_ble_eq_true rfl) (Nat.le_of_ble_eq_true rfl) (Nat.le_of_ble_eq_true rfl) dX12_open_113 eo64 (k_X12_draughtNow e62) rfl ?_
        show AW G lo 0 0 116 [(3, .int j10), (0, .ref (lo + x0)), (1, .ref (lo + x1)), (2, .int x2)] [.int r63] h61
        refine a_istore (lv2 := [(4, .int r63), (3, .int j10), (0, .ref (lo + x0)), (1, .ref (lo + x1)), (2, .int x2)]) C dX12_open_116 (by decide) rfl ?_
        refine a_aload_n C dX12_open_118 rfl 2 rfl ?_
        refine a_iload C dX12_open_119 0 rfl ?_
        refine a_aload_n C dX12_open_121 rfl 2 rfl ?_
        obtain ⟨g71, e70, e⟩ := bA_some e
        refine a_getI C cb11 23 (by decide) fl_X12_196 rfl dX12_open_122 e70 ?_
        obtain ⟨j73, eb75, e⟩ := bA_some e
        have jj74 : AW G lo 0 0 137 [(0, .ref (lo + x0)), (1, .ref (lo + x1)), (2, .int x2), (3, .int j10), (4, .int r63)] [.int j73, .ref (lo + x0)] h61 := by
          obtain ⟨h79, e78, e⟩ := bA_some e
          refine a_putI C cb11 23 (by decide) fl_X12_196 rfl (by decide +kernel) dX12_open_137 e78 ?_
          refine a_aload_n C dX12_open_140 rfl 0 rfl ?_
          obtain ⟨g81, e80, e⟩ := bA_some e
          refine a_getI C cb11 22 (by decide) fl_X12_182 rfl dX12_open_141 e80 ?_
          refine a_aload_n C dX12_open_144 rfl 1 rfl ?_
          refine a_iconst (v := (3 : Int32)) C dX12_open_145 (by decide) ?_
          obtain ⟨v82, e83, e⟩ := bA_some e
          refine a_iald C dX12_open_146 e83 ?_
          obtain ⟨j85, eb87, e⟩ := bA_some e
          have jj86 : AW G lo 0 0 169 [(0, .ref (lo + x0)), (1, .ref (lo + x1)), (2, .int x2), (3, .int j10), (4, .int r63)] [.int j85] h79 := by
            obtain ⟨rfl, rfl⟩ := sp2 e
            exact a_iret C q (Nat.le_of_ble_eq_true rfl) (Nat.le_of_ble_eq_true rfl) dX12_open_169
          have e := eb87
          refine a_icmp_le (tgt := 155) C dX12_open_147 (by decide) (fun c84 => ?_) (fun c84 => ?_)
          · have e := ip c84 e
            refine a_iload C dX12_open_155 4 rfl ?_
            refine a_aload_n C dX12_open_157 rfl 1 rfl ?_
            refine a_iconst (v := (2 : Int32)) C dX12_open_158 (by decide) ?_
            obtain ⟨v88, e89, e⟩ := bA_some e
            refine a_iald C dX12_open_159 e89 ?_
            refine a_icmp_le (tgt := 168) C dX12_open_160 (by decide) (fun c90 => ?_) (fun c90 => ?_)
            · have e := ip c90 e
              refine a_iconst (v := (0 : Int32)) C dX12_open_168 (by decide) ?_
              obtain rfl := sp1 e
              exact a_widen (Nat.le_of_ble_eq_true rfl) (Nat.le_of_ble_eq_true rfl) (a_sub [0, 1, 2, 3, 4] rfl jj86)
            · have e := iN c90 e
              refine a_bipush (v := (10 : Int32)) C dX12_open_163 (by decide) ?_
              refine a_goto (tgt := 169) C dX12_open_165 (by decide) ?_
              obtain rfl := sp1 e
              exact a_widen (Nat.le_of_ble_eq_true rfl) (Nat.le_of_ble_eq_true rfl) (a_sub [0, 1, 2, 3, 4] rfl jj86)
          · have e := iN c84 e
            refine a_bipush (v := (9 : Int32)) C dX12_open_150 (by decide) ?_
            refine a_goto (tgt := 169) C dX12_open_152 (by decide) ?_
            obtain rfl := sp1 e
            exact a_widen (Nat.le_of_ble_eq_true rfl) (Nat.le_of_ble_eq_true rfl) (a_sub [0, 1, 2, 3, 4] rfl jj86)
        have e := eb75
        refine a_icmp_le (tgt := 133) C dX12_open_125 (by decide) (fun c72 => ?_) (fun c72 => ?_)
        · have e := ip c72 e
          refine a_aload_n C dX12_open_133 rfl 2 rfl ?_
          obtain ⟨g77, e76, e⟩ := bA_some e
          refine a_getI C cb11 23 (by decide) fl_X12_196 rfl dX12_open_134 e76 ?_
          obtain rfl := sp1 e
          exact a_widen (Nat.le_of_ble_eq_true rfl) (Nat.le_of_ble_eq_true rfl) (a_sub [2, 3, 4, 1, 0] rfl jj74)
        · have e := iN c72 e
          refine a_iload C dX12_open_128 0 rfl ?_
          refine a_goto (tgt := 137) C dX12_open_130 (by decide) ?_
          obtain rfl := sp1 e
          exact a_widen (Nat.le_of_ble_eq_true rfl) (Nat.le_of_ble_eq_true rfl) (a_sub [2, 3, 4, 1, 0] rfl jj74)
      · have e := ip c22 e
        refine a_aload_n C dX12_open_51 rfl 2 rfl ?_
        refine a_iload_n C dX12_open_52 rfl 3 rfl ?_
        refine a_iconst (v := (4 : Int32)) C dX12_open_53 (by decide) ?_
        obtain ⟨r93, h91, e92, e⟩ := b2_some e
        refine a_callS (as := [.ref (lo + x1), .int x2, .int (4 : Int32)]) (rest := []) C m_X12_of sm_X12_of ml_X12_167 rfl (Nat.le_of_ble_eq_true rfl) (Nat.le_of_ble_eq_true rfl) (Nat.le_of_ble_eq_true rfl) (Nat.le_of_ble_eq_true rfl) (Nat.le_of_ble_eq_true rfl) dX12_open_54 (k_X12_of e92) rfl ?_
        show AW G lo 0 0 57 [(3, .int j10), (0, .ref (lo + x0)), (1, .ref (lo + x1)), (2, .int x2)] [.int r93] h91
        refine a_if_le (tgt := 63) C dX12_open_57 (by decide) (fun c99 => ?_) (fun c99 => ?_)
        · have e := ip c99 e
          refine a_aload_n C dX12_open_63 rfl 1 rfl ?_
          refine a_dup C dX12_open_64 rfl ?_
          obtain ⟨g101, e100, e⟩ := bA_some e
          refine a_getI C cb11 22 (by decide) fl_X12_182 rfl dX12_open_65 e100 ?_
          refine a_aload_n C dX12_open_68 rfl 2 rfl ?_
          refine a_iload_n C dX12_open_69 rfl 3 rfl ?_
          obtain ⟨r104, h102, e103, e⟩ := b2_some e
          refine a_callS (as := [.ref (lo + x1), .int x2]) (rest := [.int g101, .ref (lo + x0)]) C m_X12_loudOf sm_X12_loudOf ml_X12_185 rfl (Nat.le_of_ble_eq_true rfl) (Nat.le_of_ble_eq_true rfl) (Nat.le_of_ble_eq_true rfl) (Nat.le_of_ble_eq_true rfl) (Nat.le_of_ble_eq_true rfl) dX12_open_70 (k_X12_loudOf e103) rfl ?_
          show AW G lo 0 0 73 [(3, .int j10), (0, .ref (lo + x0)), (1, .ref (lo + x1)), (2, .int x2)] [.int r104, .int g101, .ref (lo + x0)] h102
          refine a_iadd C dX12_open_73 ?_
          obtain ⟨h111, e110, e⟩ := bA_some e
          refine a_putI C cb11 22 (by decide) fl_X12_182 rfl (by decide +kernel) dX12_open_74 e110 ?_
          refine a_aload_n C dX12_open_77 rfl 2 rfl ?_
          refine a_iload_n C dX12_open_78 rfl 3 rfl ?_
          refine a_iconst (v := (4 : Int32)) C dX12_open_79 (by decide) ?_
          refine a_aload_n C dX12_open_80 rfl 2 rfl ?_
          refine a_iload_n C dX12_open_81 rfl 3 rfl ?_
          refine a_iconst (v := (4 : Int32)) C dX12_open_82 (by decide) ?_
          obtain ⟨r114, h112, e113, e⟩ := b2_some e
          refine a_callS (as := [.ref (lo + x1), .int x2, .int (4 : Int32)]) (rest := [.int (4 : Int32), .int x2, .ref (lo + x1)]) C m_X12_of sm_X12_of ml_X12_167 rfl (Nat.le_of_ble_eq_true rfl) (Nat.le_of_ble_eq_true rfl) (Nat.le_of_ble_eq_true rfl) (Nat.le_of_ble_eq_true rfl) (Nat.le_of_ble_eq_true rfl) dX12_open_83 (k_X12_of e113) rfl ?_
          show AW G lo 0 0 86 [(3, .int j10), (0, .ref (lo + x0)), (1, .ref (lo + x1)), (2, .int x2)] [.int r114, .int (4 : Int32), .int x2, .ref (lo + x1)] h112
          refine a_iconst (v := (1 : Int32)) C dX12_open_86 (by decide) ?_
          refine a_iadd C dX12_open_87 ?_
          obtain ⟨h120, e121, e⟩ := bA_some e
          refine a_callS (as := [.ref (lo + x1), .int x2, .int (4 : Int32), .int (r114 + (1 : Int32))]) (rest := []) C m_X12_be sm_X12_be ml_X12_188 rfl (Nat.le_of_ble_eq_true rfl) (Nat.le_of_ble_eq_true rfl) (Nat.le_of_ble_eq_true rfl) (Nat.le_of_ble_eq_true rfl) (Nat.le_of_ble_eq_true rfl) dX12_open_88 (k_X12_be e121) rfl ?_
          show AW G lo 0 0 91 [(3, .int j10), (0, .ref (lo + x0)), (1, .ref (lo + x1)), (2, .int x2)] [] h120
          refine a_aload_n C dX12_open_91 rfl 1 rfl ?_
          obtain ⟨a129, e128, e⟩ := bA_some e
          refine a_getN C cb11 20 (by decide) fl_X12_37 rfl dX12_open_92 e128 ?_
          refine a_aload_n C dX12_open_95 rfl 1 rfl ?_
          obtain ⟨g131, e130, e⟩ := bA_some e
          refine a_getI C cb11 21 (by decide) fl_X12_171 rfl dX12_open_96 e130 ?_
          refine a_iload_n C dX12_open_99 rfl 3 rfl ?_
          obtain ⟨h132, e133, e⟩ := bA_some e
          refine a_iast C dX12_open_100 e133 ?_
          refine a_aload_n C dX12_open_101 rfl 1 rfl ?_
          refine a_dup C dX12_open_102 rfl ?_
          obtain ⟨g135, e134, e⟩ := bA_some e
          refine a_getI C cb11 21 (by decide) fl_X12_171 rfl dX12_open_103 e134 ?_
          refine a_iconst (v := (1 : Int32)) C dX12_open_106 (by decide) ?_
          refine a_iadd C dX12_open_107 ?_
          obtain ⟨h137, e136, e⟩ := bA_some e
          refine a_putI C cb11 21 (by decide) fl_X12_171 rfl (by decide +kernel) dX12_open_108 e136 ?_
          refine a_aload_n C dX12_open_111 rfl 1 rfl ?_
          refine a_aload_n C dX12_open_112 rfl 2 rfl ?_
          obtain ⟨u144, ec143, e⟩ := bA_some e
          obtain ⟨fs142, eo141⟩ := isC_some ec143
          obtain ⟨r140, h138, e139, e⟩ := b2_some e
          refine a_callV (as := [.ref (lo + x1)]) (rest := []) C m_X12_draughtNow im_X12_draughtNow cb11 se_X12_X12_draughtNow_X12_draughtNow ml_X12_192 rfl (Nat.le_of_ble_eq_true rfl) (Nat.le_of_ble_eq_true rfl) (Nat.le_of_ble_eq_true rfl) (Nat.le_of_ble_eq_true rfl) (Nat.le_of_ble_eq_true rfl) dX12_open_113 eo141 (k_X12_draughtNow e139) rfl ?_
          show AW G lo 0 0 116 [(3, .int j10), (0, .ref (lo + x0)), (1, .ref (lo + x1)), (2, .int x2)] [.int r140] h138
          refine a_istore (lv2 := [(4, .int r140), (3, .int j10), (0, .ref (lo + x0)), (1, .ref (lo + x1)), (2, .int x2)]) C dX12_open_116 (by decide) rfl ?_
          refine a_aload_n C dX12_open_118 rfl 2 rfl ?_
          refine a_iload C dX12_open_119 0 rfl ?_
          refine a_aload_n C dX12_open_121 rfl 2 rfl ?_
          obtain ⟨g148, e147, e⟩ := bA_some e
          refine a_getI C cb11 23 (by decide) fl_X12_196 rfl dX12_open_122 e147 ?_
          obtain ⟨j150, eb152, e⟩ := bA_some e
          have jj151 : AW G lo 0 0 137 [(0, .ref (lo + x0)), (1, .ref (lo + x1)), (2, .int x2), (3, .int j10), (4, .int r140)] [.int j150, .ref (lo + x0)] h138 := by
            obtain ⟨h156, e155, e⟩ := bA_some e
            refine a_putI C cb11 23 (by decide) fl_X12_196 rfl (by decide +kernel) dX12_open_137 e155 ?_
            refine a_aload_n C dX12_open_140 rfl 0 rfl ?_
            obtain ⟨g158, e157, e⟩ := bA_some e
            refine a_getI C cb11 22 (by decide) fl_X12_182 rfl dX12_open_141 e157 ?_
            refine a_aload_n C dX12_open_144 rfl 1 rfl ?_
            refine a_iconst (v := (3 : Int32)) C dX12_open_145 (by decide) ?_
            obtain ⟨v159, e160, e⟩ := bA_some e
            refine a_iald C dX12_open_146 e160 ?_
            obtain ⟨j162, eb164, e⟩ := bA_some e
            have jj163 : AW G lo 0 0 169 [(0, .ref (lo + x0)), (1, .ref (lo + x1)), (2, .int x2), (3, .int j10), (4, .int r140)] [.int j162] h156 := by
              obtain ⟨rfl, rfl⟩ := sp2 e
              exact a_iret C q (Nat.le_of_ble_eq_true rfl) (Nat.le_of_ble_eq_true rfl) dX12_open_169
            have e := eb164
            refine a_icmp_le (tgt := 155) C dX12_open_147 (by decide) (fun c161 => ?_) (fun c161 => ?_)
            · have e := ip c161 e
              refine a_iload C dX12_open_155 4 rfl ?_
              refine a_aload_n C dX12_open_157 rfl 1 rfl ?_
              refine a_iconst (v := (2 : Int32)) C dX12_open_158 (by decide) ?_
              obtain ⟨v165, e166, e⟩ := bA_some e
              refine a_iald C dX12_open_159 e166 ?_
              refine a_icmp_le (tgt := 168) C dX12_open_160 (by decide) (fun c167 => ?_) (fun c167 => ?_)
              · have e := ip c167 e
                refine a_iconst (v := (0 : Int32)) C dX12_open_168 (by decide) ?_
                obtain rfl := sp1 e
                exact a_widen (Nat.le_of_ble_eq_true rfl) (Nat.le_of_ble_eq_true rfl) (a_sub [0, 1, 2, 3, 4] rfl jj163)
              · have e := iN c167 e
                refine a_bipush (v := (10 : Int32)) C dX12_open_163 (by decide) ?_
                refine a_goto (tgt := 169) C dX12_open_165 (by decide) ?_
                obtain rfl := sp1 e
                exact a_widen (Nat.le_of_ble_eq_true rfl) (Nat.le_of_ble_eq_true rfl) (a_sub [0, 1, 2, 3, 4] rfl jj163)
            · have e := iN c161 e
              refine a_bipush (v := (9 : Int32)) C dX12_open_150 (by decide) ?_
              refine a_goto (tgt := 169) C dX12_open_152 (by decide) ?_
              obtain rfl := sp1 e
              exact a_widen (Nat.le_of_ble_eq_true rfl) (Nat.le_of_ble_eq_true rfl) (a_sub [0, 1, 2, 3, 4] rfl jj163)
          have e := eb152
          refine a_icmp_le (tgt := 133) C dX12_open_125 (by decide) (fun c149 => ?_) (fun c149 => ?_)
          · have e := ip c149 e
            refine a_aload_n C dX12_open_133 rfl 2 rfl ?_
            obtain ⟨g154, e153, e⟩ := bA_some e
            refine a_getI C cb11 23 (by decide) fl_X12_196 rfl dX12_open_134 e153 ?_
            obtain rfl := sp1 e
            exact a_widen (Nat.le_of_ble_eq_true rfl) (Nat.le_of_ble_eq_true rfl) (a_sub [2, 3, 4, 1, 0] rfl jj151)
          · have e := iN c149 e
            refine a_iload C dX12_open_128 0 rfl ?_
            refine a_goto (tgt := 137) C dX12_open_130 (by decide) ?_
            obtain rfl := sp1 e
            exact a_widen (Nat.le_of_ble_eq_true rfl) (Nat.le_of_ble_eq_true rfl) (a_sub [2, 3, 4, 1, 0] rfl jj151)
        · have e := iN c99 e
          refine a_bipush (v := (8 : Int32)) C dX12_open_60 (by decide) ?_
          obtain ⟨rfl, rfl⟩ := sp2 e
          exact a_iret C q (Nat.le_of_ble_eq_true rfl) (Nat.le_of_ble_eq_true rfl) dX12_open_62
    · have e := iN c13 e
      refine a_aload_n C dX12_open_20 rfl 2 rfl ?_
      refine a_iconst (v := (4 : Int32)) C dX12_open_21 (by decide) ?_
      obtain ⟨v168, e169, e⟩ := bA_some e
      refine a_iald C dX12_open_22 e169 ?_
      refine a_aload_n C dX12_open_23 rfl 2 rfl ?_
      refine a_iload_n C dX12_open_24 rfl 3 rfl ?_
      refine a_iconst (v := (3 : Int32)) C dX12_open_25 (by decide) ?_
      obtain ⟨r172, h170, e171, e⟩ := b2_some e
      refine a_callS (as := [.ref (lo + x1), .int x2, .int (3 : Int32)]) (rest := [.int v168]) C m_X12_of sm_X12_of ml_X12_167 rfl (Nat.le_of_ble_eq_true rfl) (Nat.le_of_ble_eq_true rfl) (Nat.le_of_ble_eq_true rfl) (Nat.le_of_ble_eq_true rfl) (Nat.le_of_ble_eq_true rfl) dX12_open_26 (k_X12_of e171) rfl ?_
      show AW G lo 0 0 29 [(3, .int j10), (0, .ref (lo + x0)), (1, .ref (lo + x1)), (2, .int x2)] [.int r172, .int v168] h170
      refine a_bipush (v := (6 : Int32)) C dX12_open_29 (by decide) ?_
      refine a_irem C dX12_open_31 (by decide) ?_
      obtain ⟨r180, h178, e179, e⟩ := b2_some e
      refine a_callS (as := [.int v168, .int (r172 - r172 / (6 : Int32) * (6 : Int32))]) (rest := []) C m_X12_has sm_X12_has ml_X12_178 rfl (Nat.le_of_ble_eq_true rfl) (Nat.le_of_ble_eq_true rfl) (Nat.le_of_ble_eq_true rfl) (Nat.le_of_ble_eq_true rfl) (Nat.le_of_ble_eq_true rfl) dX12_open_32 (k_X12_has e179) rfl ?_
      show AW G lo 0 0 35 [(3, .int j10), (0, .ref (lo + x0)), (1, .ref (lo + x1)), (2, .int x2)] [.int r180] h178
      refine a_if_ne (tgt := 41) C dX12_open_35 (by decide) (fun c186 => ?_) (fun c186 => ?_)
      · have e := iN c186 e
        refine a_aload_n C dX12_open_41 rfl 2 rfl ?_
        refine a_iload_n C dX12_open_42 rfl 3 rfl ?_
        refine a_iconst (v := (0 : Int32)) C dX12_open_43 (by decide) ?_
        obtain ⟨r189, h187, e188, e⟩ := b2_some e
        refine a_callS (as := [.ref (lo + x1), .int x2, .int (0 : Int32)]) (rest := []) C m_X12_of sm_X12_of ml_X12_167 rfl (Nat.le_of_ble_eq_true rfl) (Nat.le_of_ble_eq_true rfl) (Nat.le_of_ble_eq_true rfl) (Nat.le_of_ble_eq_true rfl) (Nat.le_of_ble_eq_true rfl) dX12_open_44 (k_X12_of e188) rfl ?_
        show AW G lo 0 0 47 [(3, .int j10), (0, .ref (lo + x0)), (1, .ref (lo + x1)), (2, .int x2)] [.int r189] h187
        refine a_iconst (v := (5 : Int32)) C dX12_open_47 (by decide) ?_
        refine a_icmp_ne (tgt := 63) C dX12_open_48 (by decide) (fun c195 => ?_) (fun c195 => ?_)
        · have e := iN c195 e
          refine a_aload_n C dX12_open_63 rfl 1 rfl ?_
          refine a_dup C dX12_open_64 rfl ?_
          obtain ⟨g197, e196, e⟩ := bA_some e
          refine a_getI C cb11 22 (by decide) fl_X12_182 rfl dX12_open_65 e196 ?_
          refine a_aload_n C dX12_open_68 rfl 2 rfl ?_
          refine a_iload_n C dX12_open_69 rfl 3 rfl ?_
          obtain ⟨r200, h198, e199, e⟩ := b2_some e
          refine a_callS (as := [.ref (lo + x1), .int x2]) (rest := [.int g197, .ref (lo + x0)]) C m_X12_loudOf sm_X12_loudOf ml_X12_185 rfl (Nat.le_of_ble_eq_true rfl) (Nat.le_of_ble_eq_true rfl) (Nat.le_of_ble_eq_true rfl) (Nat.le_of_ble_eq_true rfl) (Nat.le_of_ble_eq_true rfl) dX12_open_70 (k_X12_loudOf e199) rfl ?_
          show AW G lo 0 0 73 [(3, .int j10), (0, .ref (lo + x0)), (1, .ref (lo + x1)), (2, .int x2)] [.int r200, .int g197, .ref (lo + x0)] h198
          refine a_iadd C dX12_open_73 ?_
          obtain ⟨h207, e206, e⟩ := bA_some e
          refine a_putI C cb11 22 (by decide) fl_X12_182 rfl (by decide +kernel) dX12_open_74 e206 ?_
          refine a_aload_n C dX12_open_77 rfl 2 rfl ?_
          refine a_iload_n C dX12_open_78 rfl 3 rfl ?_
          refine a_iconst (v := (4 : Int32)) C dX12_open_79 (by decide) ?_
          refine a_aload_n C dX12_open_80 rfl 2 rfl ?_
          refine a_iload_n C dX12_open_81 rfl 3 rfl ?_
          refine a_iconst (v := (4 : Int32)) C dX12_open_82 (by decide) ?_
          obtain ⟨r210, h208, e209, e⟩ := b2_some e
          refine a_callS (as := [.ref (lo + x1), .int x2, .int (4 : Int32)]) (rest := [.int (4 : Int32), .int x2, .ref (lo + x1)]) C m_X12_of sm_X12_of ml_X12_167 rfl (Nat.le_of_ble_eq_true rfl) (Nat.le_of_ble_eq_true rfl) (Nat.le_of_ble_eq_true rfl) (Nat.le_of_ble_eq_true rfl) (Nat.le_of_ble_eq_true rfl) dX12_open_83 (k_X12_of e209) rfl ?_
          show AW G lo 0 0 86 [(3, .int j10), (0, .ref (lo + x0)), (1, .ref (lo + x1)), (2, .int x2)] [.int r210, .int (4 : Int32), .int x2, .ref (lo + x1)] h208
          refine a_iconst (v := (1 : Int32)) C dX12_open_86 (by decide) ?_
          refine a_iadd C dX12_open_87 ?_
          obtain ⟨h216, e217, e⟩ := bA_some e
          refine a_callS (as := [.ref (lo + x1), .int x2, .int (4 : Int32), .int (r210 + (1 : Int32))]) (rest := []) C m_X12_be sm_X12_be ml_X12_188 rfl (Nat.le_of_ble_eq_true rfl) (Nat.le_of_ble_eq_true rfl) (Nat.le_of_ble_eq_true rfl) (Nat.le_of_ble_eq_true rfl) (Nat.le_of_ble_eq_true rfl) dX12_open_88 (k_X12_be e217) rfl ?_
          show AW G lo 0 0 91 [(3, .int j10), (0, .ref (lo + x0)), (1, .ref (lo + x1)), (2, .int x2)] [] h216
          refine a_aload_n C dX12_open_91 rfl 1 rfl ?_
          obtain ⟨a225, e224, e⟩ := bA_some e
          refine a_getN C cb11 20 (by decide) fl_X12_37 rfl dX12_open_92 e224 ?_
          refine a_aload_n C dX12_open_95 rfl 1 rfl ?_
          obtain ⟨g227, e226, e⟩ := bA_some e
          refine a_getI C cb11 21 (by decide) fl_X12_171 rfl dX12_open_96 e226 ?_
          refine a_iload_n C dX12_open_99 rfl 3 rfl ?_
          obtain ⟨h228, e229, e⟩ := bA_some e
          refine a_iast C dX12_open_100 e229 ?_
          refine a_aload_n C dX12_open_101 rfl 1 rfl ?_
          refine a_dup C dX12_open_102 rfl ?_
          obtain ⟨g231, e230, e⟩ := bA_some e
          refine a_getI C cb11 21 (by decide) fl_X12_171 rfl dX12_open_103 e230 ?_
          refine a_iconst (v := (1 : Int32)) C dX12_open_106 (by decide) ?_
          refine a_iadd C dX12_open_107 ?_
          obtain ⟨h233, e232, e⟩ := bA_some e
          refine a_putI C cb11 21 (by decide) fl_X12_171 rfl (by decide +kernel) dX12_open_108 e232 ?_
          refine a_aload_n C dX12_open_111 rfl 1 rfl ?_
          refine a_aload_n C dX12_open_112 rfl 2 rfl ?_
          obtain ⟨u240, ec239, e⟩ := bA_some e
          obtain ⟨fs238, eo237⟩ := isC_some ec239
          obtain ⟨r236, h234, e235, e⟩ := b2_some e
          refine a_callV (as := [.ref (lo + x1)]) (rest := []) C m_X12_draughtNow im_X12_draughtNow cb11 se_X12_X12_draughtNow_X12_draughtNow ml_X12_192 rfl (Nat.le_of_ble_eq_true rfl) (Nat.le_of_ble_eq_true rfl) (Nat.le_of_ble_eq_true rfl) (Nat.le_of_ble_eq_true rfl) (Nat.le_of_ble_eq_true rfl) dX12_open_113 eo237 (k_X12_draughtNow e235) rfl ?_
          show AW G lo 0 0 116 [(3, .int j10), (0, .ref (lo + x0)), (1, .ref (lo + x1)), (2, .int x2)] [.int r236] h234
          refine a_istore (lv2 := [(4, .int r236), (3, .int j10), (0, .ref (lo + x0)), (1, .ref (lo + x1)), (2, .int x2)]) C dX12_open_116 (by decide) rfl ?_
          refine a_aload_n C dX12_open_118 rfl 2 rfl ?_
          refine a_iload C dX12_open_119 0 rfl ?_
          refine a_aload_n C dX12_open_121 rfl 2 rfl ?_
          obtain ⟨g244, e243, e⟩ := bA_some e
          refine a_getI C cb11 23 (by decide) fl_X12_196 rfl dX12_open_122 e243 ?_
          obtain ⟨j246, eb248, e⟩ := bA_some e
          have jj247 : AW G lo 0 0 137 [(0, .ref (lo + x0)), (1, .ref (lo + x1)), (2, .int x2), (3, .int j10), (4, .int r236)] [.int j246, .ref (lo + x0)] h234 := by
            obtain ⟨h252, e251, e⟩ := bA_some e
            refine a_putI C cb11 23 (by decide) fl_X12_196 rfl (by decide +kernel) dX12_open_137 e251 ?_
            refine a_aload_n C dX12_open_140 rfl 0 rfl ?_
            obtain ⟨g254, e253, e⟩ := bA_some e
            refine a_getI C cb11 22 (by decide) fl_X12_182 rfl dX12_open_141 e253 ?_
            refine a_aload_n C dX12_open_144 rfl 1 rfl ?_
            refine a_iconst (v := (3 : Int32)) C dX12_open_145 (by decide) ?_
            obtain ⟨v255, e256, e⟩ := bA_some e
            refine a_iald C dX12_open_146 e256 ?_
            obtain ⟨j258, eb260, e⟩ := bA_some e
            have jj259 : AW G lo 0 0 169 [(0, .ref (lo + x0)), (1, .ref (lo + x1)), (2, .int x2), (3, .int j10), (4, .int r236)] [.int j258] h252 := by
              obtain ⟨rfl, rfl⟩ := sp2 e
              exact a_iret C q (Nat.le_of_ble_eq_true rfl) (Nat.le_of_ble_eq_true rfl) dX12_open_169
            have e := eb260
            refine a_icmp_le (tgt := 155) C dX12_open_147 (by decide) (fun c257 => ?_) (fun c257 => ?_)
            · have e := ip c257 e
              refine a_iload C dX12_open_155 4 rfl ?_
              refine a_aload_n C dX12_open_157 rfl 1 rfl ?_
              refine a_iconst (v := (2 : Int32)) C dX12_open_158 (by decide) ?_
              obtain ⟨v261, e262, e⟩ := bA_some e
              refine a_iald C dX12_open_159 e262 ?_
              refine a_icmp_le (tgt := 168) C dX12_open_160 (by decide) (fun c263 => ?_) (fun c263 => ?_)
              · have e := ip c263 e
                refine a_iconst (v := (0 : Int32)) C dX12_open_168 (by decide) ?_
                obtain rfl := sp1 e
                exact a_widen (Nat.le_of_ble_eq_true rfl) (Nat.le_of_ble_eq_true rfl) (a_sub [0, 1, 2, 3, 4] rfl jj259)
              · have e := iN c263 e
                refine a_bipush (v := (10 : Int32)) C dX12_open_163 (by decide) ?_
                refine a_goto (tgt := 169) C dX12_open_165 (by decide) ?_
                obtain rfl := sp1 e
                exact a_widen (Nat.le_of_ble_eq_true rfl) (Nat.le_of_ble_eq_true rfl) (a_sub [0, 1, 2, 3, 4] rfl jj259)
            · have e := iN c257 e
              refine a_bipush (v := (9 : Int32)) C dX12_open_150 (by decide) ?_
              refine a_goto (tgt := 169) C dX12_open_152 (by decide) ?_
              obtain rfl := sp1 e
              exact a_widen (Nat.le_of_ble_eq_true rfl) (Nat.le_of_ble_eq_true rfl) (a_sub [0, 1, 2, 3, 4] rfl jj259)
          have e := eb248
          refine a_icmp_le (tgt := 133) C dX12_open_125 (by decide) (fun c245 => ?_) (fun c245 => ?_)
          · have e := ip c245 e
            refine a_aload_n C dX12_open_133 rfl 2 rfl ?_
            obtain ⟨g250, e249, e⟩ := bA_some e
            refine a_getI C cb11 23 (by decide) fl_X12_196 rfl dX12_open_134 e249 ?_
            obtain rfl := sp1 e
            exact a_widen (Nat.le_of_ble_eq_true rfl) (Nat.le_of_ble_eq_true rfl) (a_sub [2, 3, 4, 1, 0] rfl jj247)
          · have e := iN c245 e
            refine a_iload C dX12_open_128 0 rfl ?_
            refine a_goto (tgt := 137) C dX12_open_130 (by decide) ?_
            obtain rfl := sp1 e
            exact a_widen (Nat.le_of_ble_eq_true rfl) (Nat.le_of_ble_eq_true rfl) (a_sub [2, 3, 4, 1, 0] rfl jj247)
        · have e := ip c195 e
          refine a_aload_n C dX12_open_51 rfl 2 rfl ?_
          refine a_iload_n C dX12_open_52 rfl 3 rfl ?_
          refine a_iconst (v := (4 : Int32)) C dX12_open_53 (by decide) ?_
          obtain ⟨r266, h264, e265, e⟩ := b2_some e
          refine a_callS (as := [.ref (lo + x1), .int x2, .int (4 : Int32)]) (rest := []) C m_X12_of sm_X12_of ml_X12_167 rfl (Nat.le_of_ble_eq_true rfl) (Nat.le_of_ble_eq_true rfl) (Nat.le_of_ble_eq_true rfl) (Nat.le_of_ble_eq_true rfl) (Nat.le_of_ble_eq_true rfl) dX12_open_54 (k_X12_of e265) rfl ?_
          show AW G lo 0 0 57 [(3, .int j10), (0, .ref (lo + x0)), (1, .ref (lo + x1)), (2, .int x2)] [.int r266] h264
          refine a_if_le (tgt := 63) C dX12_open_57 (by decide) (fun c272 => ?_) (fun c272 => ?_)
          · have e := ip c272 e
            refine a_aload_n C dX12_open_63 rfl 1 rfl ?_
            refine a_dup C dX12_open_64 rfl ?_
            obtain ⟨g274, e273, e⟩ := bA_some e
            refine a_getI C cb11 22 (by decide) fl_X12_182 rfl dX12_open_65 e273 ?_
            refine a_aload_n C dX12_open_68 rfl 2 rfl ?_
            refine a_iload_n C dX12_open_69 rfl 3 rfl ?_
            obtain ⟨r277, h275, e276, e⟩ := b2_some e
            refine a_callS (as := [.ref (lo + x1), .int x2]) (rest := [.int g274, .ref (lo + x0)]) C m_X12_loudOf sm_X12_loudOf ml_X12_185 rfl (Nat.le_of_ble_eq_true rfl) (Nat.le_of_ble_eq_true rfl) (Nat.le_of_ble_eq_true rfl) (Nat.le_of_ble_eq_true rfl) (Nat.le_of_ble_eq_true rfl) dX12_open_70 (k_X12_loudOf e276) rfl ?_
            show AW G lo 0 0 73 [(3, .int j10), (0, .ref (lo + x0)), (1, .ref (lo + x1)), (2, .int x2)] [.int r277, .int g274, .ref (lo + x0)] h275
            refine a_iadd C dX12_open_73 ?_
            obtain ⟨h284, e283, e⟩ := bA_some e
            refine a_putI C cb11 22 (by decide) fl_X12_182 rfl (by decide +kernel) dX12_open_74 e283 ?_
            refine a_aload_n C dX12_open_77 rfl 2 rfl ?_
            refine a_iload_n C dX12_open_78 rfl 3 rfl ?_
            refine a_iconst (v := (4 : Int32)) C dX12_open_79 (by decide) ?_
            refine a_aload_n C dX12_open_80 rfl 2 rfl ?_
            refine a_iload_n C dX12_open_81 rfl 3 rfl ?_
            refine a_iconst (v := (4 : Int32)) C dX12_open_82 (by decide) ?_
            obtain ⟨r287, h285, e286, e⟩ := b2_some e
            refine a_callS (as := [.ref (lo + x1), .int x2, .int (4 : Int32)]) (rest := [.int (4 : Int32), .int x2, .ref (lo + x1)]) C m_X12_of sm_X12_of ml_X12_167 rfl (Nat.le_of_ble_eq_true rfl) (Nat.le_of_ble_eq_true rfl) (Nat.le_of_ble_eq_true rfl) (Nat.le_of_ble_eq_true rfl) (Nat.le_of_ble_eq_true rfl) dX12_open_83 (k_X12_of e286) rfl ?_
            show AW G lo 0 0 86 [(3, .int j10), (0, .ref (lo + x0)), (1, .ref (lo + x1)), (2, .int x2)] [.int r287, .int (4 : Int32), .int x2, .ref (lo + x1)] h285
            refine a_iconst (v := (1 : Int32)) C dX12_open_86 (by decide) ?_
            refine a_iadd C dX12_open_87 ?_
            obtain ⟨h293, e294, e⟩ := bA_some e
            refine a_callS (as := [.ref (lo + x1), .int x2, .int (4 : Int32), .int (r287 + (1 : Int32))]) (rest := []) C m_X12_be sm_X12_be ml_X12_188 rfl (Nat.le_of_ble_eq_true rfl) (Nat.le_of_ble_eq_true rfl) (Nat.le_of_ble_eq_true rfl) (Nat.le_of_ble_eq_true rfl) (Nat.le_of_ble_eq_true rfl) dX12_open_88 (k_X12_be e294) rfl ?_
            show AW G lo 0 0 91 [(3, .int j10), (0, .ref (lo + x0)), (1, .ref (lo + x1)), (2, .int x2)] [] h293
            refine a_aload_n C dX12_open_91 rfl 1 rfl ?_
            obtain ⟨a302, e301, e⟩ := bA_some e
            refine a_getN C cb11 20 (by decide) fl_X12_37 rfl dX12_open_92 e301 ?_
            refine a_aload_n C dX12_open_95 rfl 1 rfl ?_
            obtain ⟨g304, e303, e⟩ := bA_some e
            refine a_getI C cb11 21 (by decide) fl_X12_171 rfl dX12_open_96 e303 ?_
            refine a_iload_n C dX12_open_99 rfl 3 rfl ?_
            obtain ⟨h305, e306, e⟩ := bA_some e
            refine a_iast C dX12_open_100 e306 ?_
            refine a_aload_n C dX12_open_101 rfl 1 rfl ?_
            refine a_dup C dX12_open_102 rfl ?_
            obtain ⟨g308, e307, e⟩ := bA_some e
            refine a_getI C cb11 21 (by decide) fl_X12_171 rfl dX12_open_103 e307 ?_
            refine a_iconst (v := (1 : Int32)) C dX12_open_106 (by decide) ?_
            refine a_iadd C dX12_open_107 ?_
            obtain ⟨h310, e309, e⟩ := bA_some e
            refine a_putI C cb11 21 (by decide) fl_X12_171 rfl (by decide +kernel) dX12_open_108 e309 ?_
            refine a_aload_n C dX12_open_111 rfl 1 rfl ?_
            refine a_aload_n C dX12_open_112 rfl 2 rfl ?_
            obtain ⟨u317, ec316, e⟩ := bA_some e
            obtain ⟨fs315, eo314⟩ := isC_some ec316
            obtain ⟨r313, h311, e312, e⟩ := b2_some e
            refine a_callV (as := [.ref (lo + x1)]) (rest := []) C m_X12_draughtNow im_X12_draughtNow cb11 se_X12_X12_draughtNow_X12_draughtNow ml_X12_192 rfl (Nat.le_of_ble_eq_true rfl) (Nat.le_of_ble_eq_true rfl) (Nat.le_of_ble_eq_true rfl) (Nat.le_of_ble_eq_true rfl) (Nat.le_of_ble_eq_true rfl) dX12_open_113 eo314 (k_X12_draughtNow e312) rfl ?_
            show AW G lo 0 0 116 [(3, .int j10), (0, .ref (lo + x0)), (1, .ref (lo + x1)), (2, .int x2)] [.int r313] h311
            refine a_istore (lv2 := [(4, .int r313), (3, .int j10), (0, .ref (lo + x0)), (1, .ref (lo + x1)), (2, .int x2)]) C dX12_open_116 (by decide) rfl ?_
            refine a_aload_n C dX12_open_118 rfl 2 rfl ?_
            refine a_iload C dX12_open_119 0 rfl ?_
            refine a_aload_n C dX12_open_121 rfl 2 rfl ?_
            obtain ⟨g321, e320, e⟩ := bA_some e
            refine a_getI C cb11 23 (by decide) fl_X12_196 rfl dX12_open_122 e320 ?_
            obtain ⟨j323, eb325, e⟩ := bA_some e
            have jj324 : AW G lo 0 0 137 [(0, .ref (lo + x0)), (1, .ref (lo + x1)), (2, .int x2), (3, .int j10), (4, .int r313)] [.int j323, .ref (lo + x0)] h311 := by
              obtain ⟨h329, e328, e⟩ := bA_some e
              refine a_putI C cb11 23 (by decide) fl_X12_196 rfl (by decide +kernel) dX12_open_137 e328 ?_
              refine a_aload_n C dX12_open_140 rfl 0 rfl ?_
              obtain ⟨g331, e330, e⟩ := bA_some e
              refine a_getI C cb11 22 (by decide) fl_X12_182 rfl dX12_open_141 e330 ?_
              refine a_aload_n C dX12_open_144 rfl 1 rfl ?_
              refine a_iconst (v := (3 : Int32)) C dX12_open_145 (by decide) ?_
              obtain ⟨v332, e333, e⟩ := bA_some e
              refine a_iald C dX12_open_146 e333 ?_
              obtain ⟨j335, eb337, e⟩ := bA_some e
              have jj336 : AW G lo 0 0 169 [(0, .ref (lo + x0)), (1, .ref (lo + x1)), (2, .int x2), (3, .int j10), (4, .int r313)] [.int j335] h329 := by
                obtain ⟨rfl, rfl⟩ := sp2 e
                exact a_iret C q (Nat.le_of_ble_eq_true rfl) (Nat.le_of_ble_eq_true rfl) dX12_open_169
              have e := eb337
              refine a_icmp_le (tgt := 155) C dX12_open_147 (by decide) (fun c334 => ?_) (fun c334 => ?_)
              · have e := ip c334 e
                refine a_iload C dX12_open_155 4 rfl ?_
                refine a_aload_n C dX12_open_157 rfl 1 rfl ?_
                refine a_iconst (v := (2 : Int32)) C dX12_open_158 (by decide) ?_
                obtain ⟨v338, e339, e⟩ := bA_some e
                refine a_iald C dX12_open_159 e339 ?_
                refine a_icmp_le (tgt := 168) C dX12_open_160 (by decide) (fun c340 => ?_) (fun c340 => ?_)
                · have e := ip c340 e
                  refine a_iconst (v := (0 : Int32)) C dX12_open_168 (by decide) ?_
                  obtain rfl := sp1 e
                  exact a_widen (Nat.le_of_ble_eq_true rfl) (Nat.le_of_ble_eq_true rfl) (a_sub [0, 1, 2, 3, 4] rfl jj336)
                · have e := iN c340 e
                  refine a_bipush (v := (10 : Int32)) C dX12_open_163 (by decide) ?_
                  refine a_goto (tgt := 169) C dX12_open_165 (by decide) ?_
                  obtain rfl := sp1 e
                  exact a_widen (Nat.le_of_ble_eq_true rfl) (Nat.le_of_ble_eq_true rfl) (a_sub [0, 1, 2, 3, 4] rfl jj336)
              · have e := iN c334 e
                refine a_bipush (v := (9 : Int32)) C dX12_open_150 (by decide) ?_
                refine a_goto (tgt := 169) C dX12_open_152 (by decide) ?_
                obtain rfl := sp1 e
                exact a_widen (Nat.le_of_ble_eq_true rfl) (Nat.le_of_ble_eq_true rfl) (a_sub [0, 1, 2, 3, 4] rfl jj336)
            have e := eb325
            refine a_icmp_le (tgt := 133) C dX12_open_125 (by decide) (fun c322 => ?_) (fun c322 => ?_)
            · have e := ip c322 e
              refine a_aload_n C dX12_open_133 rfl 2 rfl ?_
              obtain ⟨g327, e326, e⟩ := bA_some e
              refine a_getI C cb11 23 (by decide) fl_X12_196 rfl dX12_open_134 e326 ?_
              obtain rfl := sp1 e
              exact a_widen (Nat.le_of_ble_eq_true rfl) (Nat.le_of_ble_eq_true rfl) (a_sub [2, 3, 4, 1, 0] rfl jj324)
            · have e := iN c322 e
              refine a_iload C dX12_open_128 0 rfl ?_
              refine a_goto (tgt := 137) C dX12_open_130 (by decide) ?_
              obtain rfl := sp1 e
              exact a_widen (Nat.le_of_ble_eq_true rfl) (Nat.le_of_ble_eq_true rfl) (a_sub [2, 3, 4, 1, 0] rfl jj324)
          · have e := iN c272 e
            refine a_bipush (v := (8 : Int32)) C dX12_open_60 (by decide) ?_
            obtain ⟨rfl, rfl⟩ := sp2 e
            exact a_iret C q (Nat.le_of_ble_eq_true rfl) (Nat.le_of_ble_eq_true rfl) dX12_open_62
      · have e := ip c186 e
        refine a_bipush (v := (7 : Int32)) C dX12_open_38 (by decide) ?_
        obtain ⟨rfl, rfl⟩ := sp2 e
        exact a_iret C q (Nat.le_of_ble_eq_true rfl) (Nat.le_of_ble_eq_true rfl) dX12_open_40
  have e := eb12
  refine a_icmp_lt (tgt := 14) C dX12_open_7 (by decide) (fun c9 => ?_) (fun c9 => ?_)
  · have e := ip c9 e
    refine a_iconst (v := (0 : Int32)) C dX12_open_14 (by decide) ?_
    obtain rfl := sp1 e
    exact a_widen (Nat.le_of_ble_eq_true rfl) (Nat.le_of_ble_eq_true rfl) (a_sub [0, 1, 2] rfl jj11)
  · have e := iN c9 e
    refine a_iconst (v := (1 : Int32)) C dX12_open_10 (by decide) ?_
    refine a_goto (tgt := 15) C dX12_open_11 (by decide) ?_
    obtain rfl := sp1 e
    exact a_widen (Nat.le_of_ble_eq_true rfl) (Nat.le_of_ble_eq_true rfl) (a_sub [0, 1, 2] rfl jj11)

set_option maxRecDepth 100000 in
def f_X12_goThrough (h : Hp) (x0 : Nat) (x1 : Nat) (x2 : Int32) : Option (Int32 × Hp) := bA (ald h x1 0 (0 : Int32)) fun v1 => b2 (f_X12_in h x2.toInt64 (0 : Int64) ((v1 - (1 : Int32)).toInt64)) fun r5 h3 => (if r5 = 0 then some ((6 : Int32), h3) else b2 (f_X12_of h3 x1 x2 (1 : Int32)) fun r14 h12 => bA (gI h12 x0 11 24) fun g21 => (if r14 = g21 then bA (isC h12 x0 11) fun u29 => b2 (f_X12_isOpen h12 x0 x2) fun r25 h23 => b2 (if r25 = 0 then bA (isC h23 x0 11) fun u43 => b2 (f_X12_open h23 x0 x1 x2) fun r39 h37 => some (r39, h37) else some ((0 : Int32), h23)) fun j33 h34 => b2 (if j33 = 0 then b2 (f_X12_of h34 x1 x2 (1 : Int32)) fun r55 h53 => b2 (f_X12_of h53 x1 x2 (2 : Int32)) fun r63 h61 => bA (gI h61 x0 11 24) fun g70 => some (((r55 + r63) - g70), h61) else bA (gI h34 x0 11 24) fun g52 => some (g52, h34)) fun j47 h48 => bA (pV h48 x0 11 24 (.inl j47)) fun h72 => some (j33, h72) else b2 (f_X12_of h12 x1 x2 (2 : Int32)) fun r75 h73 => bA (gI h73 x0 11 24) fun g82 => (if r75 = g82 then bA (isC h73 x0 11) fun u90 => b2 (f_X12_isOpen h73 x0 x2) fun r86 h84 => b2 (if r86 = 0 then bA (isC h84 x0 11) fun u104 => b2 (f_X12_open h84 x0 x1 x2) fun r100 h98 => some (r100, h98) else some ((0 : Int32), h84)) fun j94 h95 => b2 (if j94 = 0 then b2 (f_X12_of h95 x1 x2 (1 : Int32)) fun r116 h114 => b2 (f_X12_of h114 x1 x2 (2 : Int32)) fun r124 h122 => bA (gI h122 x0 11 24) fun g131 => some (((r116 + r124) - g131), h122) else bA (gI h95 x0 11 24) fun g113 => some (g113, h95)) fun j108 h109 => bA (pV h109 x0 11 24 (.inl j108)) fun h133 => some (j94, h133) else some ((6 : Int32), h73))))

theorem m_X12_goThrough : MI yX12_goThrough cX12_goThrough 4 (some .int) 2 := ⟨co_X12_goThrough, ini_X12, by decide, by decide +kernel⟩
set_option maxRecDepth 100000 in
set_option maxHeartbeats 4000000 in
theorem k_X12_goThrough {lo : Nat} {h : Hp} {x0 : Nat} {x1 : Nat} {x2 : Int32} {r : Int32} {h' : Hp} (e : f_X12_goThrough h x0 x1 x2 = some (r, h')) : ∀ l d, AC l d lo yX12_goThrough cX12_goThrough 4 (some .int) ({ frames := 4, cells := 0, slots := 0, locals := 91 } : Room) [.ref (lo + x0), .ref (lo + x1), .int x2] h (some (.int r)) h' := by
  intro l d
  refine AC_of (by decide) (Nat.le_of_ble_eq_true rfl) ?_
  intro G C _ _ q
  unfold f_X12_goThrough at e
  show AW G lo 0 0 0 [(0, .ref (lo + x0)), (1, .ref (lo + x1)), (2, .int x2)] [] h
  refine a_iload_n C dX12_goThrough_0 rfl 2 rfl ?_
  refine a_i2l C dX12_goThrough_1 ?_
  refine a_lconst (v := (0 : Int64)) C dX12_goThrough_2 (by decide) ?_
  refine a_aload_n C dX12_goThrough_3 rfl 1 rfl ?_
  refine a_iconst (v := (0 : Int32)) C dX12_goThrough_4 (by decide) ?_
  obtain ⟨v1, e2, e⟩ := bA_some e
  refine a_iald C dX12_goThrough_5 e2 ?_
  refine a_iconst (v := (1 : Int32)) C dX12_goThrough_6 (by decide) ?_
  refine a_isub C dX12_goThrough_7 ?_
  refine a_i2l C dX12_goThrough_8 ?_
  obtain ⟨r5, h3, e4, e⟩ := b2_some e
  refine a_callS (as := [.long x2.toInt64, .long (0 : Int64), .long ((v1 - (1 : Int32)).toInt64)]) (rest := []) C m_X12_in sm_X12_in ml_X12_63 rfl (Nat.le_of_ble_eq_true rfl) (Nat.le_of_ble_eq_true rfl) (Nat.le_of_ble_eq_true rfl) (Nat.le_of_ble_eq_true rfl) (Nat.le_of_ble_eq_true rfl) dX12_goThrough_9 (k_X12_in e4) rfl ?_
  show AW G lo 0 0 12 [(0, .ref (lo + x0)), (1, .ref (lo + x1)), (2, .int x2)] [.int r5] h3
  refine a_if_eq (tgt := 41) C dX12_goThrough_12 (by decide) (fun c11 => ?_) (fun c11 => ?_)
  · have e := ip c11 e
    refine a_bipush (v := (6 : Int32)) C dX12_goThrough_41 (by decide) ?_
    obtain ⟨rfl, rfl⟩ := sp2 e
    exact a_iret C q (Nat.le_of_ble_eq_true rfl) (Nat.le_of_ble_eq_true rfl) dX12_goThrough_43
  · have e := iN c11 e
    refine a_aload_n C dX12_goThrough_15 rfl 1 rfl ?_
    refine a_iload_n C dX12_goThrough_16 rfl 2 rfl ?_
    refine a_iconst (v := (1 : Int32)) C dX12_goThrough_17 (by decide) ?_
    obtain ⟨r14, h12, e13, e⟩ := b2_some e
    refine a_callS (as := [.ref (lo + x1), .int x2, .int (1 : Int32)]) (rest := []) C m_X12_of sm_X12_of ml_X12_167 rfl (Nat.le_of_ble_eq_true rfl) (Nat.le_of_ble_eq_true rfl) (Nat.le_of_ble_eq_true rfl) (Nat.le_of_ble_eq_true rfl) (Nat.le_of_ble_eq_true rfl) dX12_goThrough_18 (k_X12_of e13) rfl ?_
    show AW G lo 0 0 21 [(0, .ref (lo + x0)), (1, .ref (lo + x1)), (2, .int x2)] [.int r14] h12
    refine a_aload_n C dX12_goThrough_21 rfl 0 rfl ?_
    obtain ⟨g21, e20, e⟩ := bA_some e
    refine a_getI C cb11 24 (by decide) fl_X12_199 rfl dX12_goThrough_22 e20 ?_
    refine a_icmp_eq (tgt := 44) C dX12_goThrough_25 (by decide) (fun c22 => ?_) (fun c22 => ?_)
    · have e := ip c22 e
      refine a_aload_n C dX12_goThrough_44 rfl 0 rfl ?_
      refine a_iload_n C dX12_goThrough_45 rfl 2 rfl ?_
      obtain ⟨u29, ec28, e⟩ := bA_some e
      obtain ⟨fs27, eo26⟩ := isC_some ec28
      obtain ⟨r25, h23, e24, e⟩ := b2_some e
      refine a_callV (as := [.int x2]) (rest := []) C m_X12_isOpen im_X12_isOpen cb11 se_X12_X12_isOpen_X12_isOpen ml_X12_202 rfl (Nat.le_of_ble_eq_true rfl) (Nat.le_of_ble_eq_true rfl) (Nat.le_of_ble_eq_true rfl) (Nat.le_of_ble_eq_true rfl) (Nat.le_of_ble_eq_true rfl) dX12_goThrough_46 eo26 (k_X12_isOpen e24) rfl ?_
      show AW G lo 0 0 49 [(0, .ref (lo + x0)), (1, .ref (lo + x1)), (2, .int x2)] [.int r25] h23
      obtain ⟨j33, h34, eb36, e⟩ := b2_some e
      have jj35 : AW G lo 0 0 62 [(0, .ref (lo + x0)), (1, .ref (lo + x1)), (2, .int x2)] [.int j33] h34 := by
        refine a_istore_n (lv2 := [(3, .int j33), (0, .ref (lo + x0)), (1, .ref (lo + x1)), (2, .int x2)]) C dX12_goThrough_62 rfl (by decide) rfl ?_
        refine a_aload_n C dX12_goThrough_63 rfl 1 rfl ?_
        refine a_iload_n C dX12_goThrough_64 rfl 0 rfl ?_
        obtain ⟨j47, h48, eb50, e⟩ := b2_some e
        have jj49 : AW G lo 0 0 93 [(0, .ref (lo + x0)), (1, .ref (lo + x1)), (2, .int x2), (3, .int j33)] [.int j47, .ref (lo + x0)] h48 := by
          obtain ⟨h72, e71, e⟩ := bA_some e
          refine a_putI C cb11 24 (by decide) fl_X12_199 rfl (by decide +kernel) dX12_goThrough_93 e71 ?_
          refine a_iload_n C dX12_goThrough_96 rfl 3 rfl ?_
          obtain ⟨rfl, rfl⟩ := sp2 e
          exact a_iret C q (Nat.le_of_ble_eq_true rfl) (Nat.le_of_ble_eq_true rfl) dX12_goThrough_97
        have e := eb50
        refine a_if_ne (tgt := 89) C dX12_goThrough_65 (by decide) (fun c46 => ?_) (fun c46 => ?_)
        · have e := iN c46 e
          refine a_aload_n C dX12_goThrough_89 rfl 1 rfl ?_
          obtain ⟨g52, e51, e⟩ := bA_some e
          refine a_getI C cb11 24 (by decide) fl_X12_199 rfl dX12_goThrough_90 e51 ?_
          obtain ⟨rfl, rfl⟩ := sp2 e
          exact a_widen (Nat.le_of_ble_eq_true rfl) (Nat.le_of_ble_eq_true rfl) (a_sub [1, 2, 3, 0] rfl jj49)
        · have e := ip c46 e
          refine a_aload_n C dX12_goThrough_68 rfl 2 rfl ?_
          refine a_iload_n C dX12_goThrough_69 rfl 3 rfl ?_
          refine a_iconst (v := (1 : Int32)) C dX12_goThrough_70 (by decide) ?_
          obtain ⟨r55, h53, e54, e⟩ := b2_some e
          refine a_callS (as := [.ref (lo + x1), .int x2, .int (1 : Int32)]) (rest := [.ref (lo + x0)]) C m_X12_of sm_X12_of ml_X12_167 rfl (Nat.le_of_ble_eq_true rfl) (Nat.le_of_ble_eq_true rfl) (Nat.le_of_ble_eq_true rfl) (Nat.le_of_ble_eq_true rfl) (Nat.le_of_ble_eq_true rfl) dX12_goThrough_71 (k_X12_of e54) rfl ?_
          show AW G lo 0 0 74 [(3, .int j33), (0, .ref (lo + x0)), (1, .ref (lo + x1)), (2, .int x2)] [.int r55, .ref (lo + x0)] h53
          refine a_aload_n C dX12_goThrough_74 rfl 2 rfl ?_
          refine a_iload_n C dX12_goThrough_75 rfl 3 rfl ?_
          refine a_iconst (v := (2 : Int32)) C dX12_goThrough_76 (by decide) ?_
          obtain ⟨r63, h61, e62, e⟩ := b2_some e
          refine a_callS (as := [.ref (lo + x1), .int x2, .int (2 : Int32)]) (rest := [.int r55, .ref (lo + x0)]) C m_X12_of sm_X12_of ml_X12_167 rfl (Nat.le_of_ble_eq_true rfl) (Nat.le_of_ble_eq_true rfl) (Nat.le_of_ble_eq_true rfl) (Nat.le_of_ble_eq_true rfl) (Nat.le_of_ble_eq_true rfl) dX12_goThrough_77 (k_X12_of e62) rfl ?_
          show AW G lo 0 0 80 [(3, .int j33), (0, .ref (lo + x0)), (1, .ref (lo + x1)), (2, .int x2)] [.int r63, .int r55, .ref (lo + x0)] h61
          refine a_iadd C dX12_goThrough_80 ?_
          refine a_aload_n C dX12_goThrough_81 rfl 1 rfl ?_
          obtain ⟨g70, e69, e⟩ := bA_some e
          refine a_getI C cb11 24 (by decide) fl_X12_199 rfl dX12_goThrough_82 e69 ?_
          refine a_isub C dX12_goThrough_85 ?_
          refine a_goto (tgt := 93) C dX12_goThrough_86 (by decide) ?_
          obtain ⟨rfl, rfl⟩ := sp2 e
          exact a_widen (Nat.le_of_ble_eq_true rfl) (Nat.le_of_ble_eq_true rfl) (a_sub [1, 2, 3, 0] rfl jj49)
      have e := eb36
      refine a_if_eq (tgt := 56) C dX12_goThrough_49 (by decide) (fun c32 => ?_) (fun c32 => ?_)
      · have e := ip c32 e
        refine a_aload_n C dX12_goThrough_56 rfl 0 rfl ?_
        refine a_aload_n C dX12_goThrough_57 rfl 1 rfl ?_
        refine a_iload_n C dX12_goThrough_58 rfl 2 rfl ?_
        obtain ⟨u43, ec42, e⟩ := bA_some e
        obtain ⟨fs41, eo40⟩ := isC_some ec42
        obtain ⟨r39, h37, e38, e⟩ := b2_some e
        refine a_callV (as := [.ref (lo + x1), .int x2]) (rest := []) C m_X12_open im_X12_open cb11 se_X12_X12_open_X12_open ml_X12_205 rfl (Nat.le_of_ble_eq_true rfl) (Nat.le_of_ble_eq_true rfl) (Nat.le_of_ble_eq_true rfl) (Nat.le_of_ble_eq_true rfl) (Nat.le_of_ble_eq_true rfl) dX12_goThrough_59 eo40 (k_X12_open e38) rfl ?_
        show AW G lo 0 0 62 [(0, .ref (lo + x0)), (1, .ref (lo + x1)), (2, .int x2)] [.int r39] h37
        obtain ⟨rfl, rfl⟩ := sp2 e
        exact a_widen (Nat.le_of_ble_eq_true rfl) (Nat.le_of_ble_eq_true rfl) (a_sub [0, 1, 2] rfl jj35)
      · have e := iN c32 e
        refine a_iconst (v := (0 : Int32)) C dX12_goThrough_52 (by decide) ?_
        refine a_goto (tgt := 62) C dX12_goThrough_53 (by decide) ?_
        obtain ⟨rfl, rfl⟩ := sp2 e
        exact a_widen (Nat.le_of_ble_eq_true rfl) (Nat.le_of_ble_eq_true rfl) (a_sub [0, 1, 2] rfl jj35)
    · have e := iN c22 e
      refine a_aload_n C dX12_goThrough_28 rfl 1 rfl ?_
      refine a_iload_n C dX12_goThrough_29 rfl 2 rfl ?_
      refine a_iconst (v := (2 : Int32)) C dX12_goThrough_30 (by decide) ?_
      obtain ⟨r75, h73, e74, e⟩ := b2_some e
      refine a_callS (as := [.ref (lo + x1), .int x2, .int (2 : Int32)]) (rest := []) C m_X12_of sm_X12_of ml_X12_167 rfl (Nat.le_of_ble_eq_true rfl) (Nat.le_of_ble_eq_true rfl) (Nat.le_of_ble_eq_true rfl) (Nat.le_of_ble_eq_true rfl) (Nat.le_of_ble_eq_true rfl) dX12_goThrough_31 (k_X12_of e74) rfl ?_
      show AW G lo 0 0 34 [(0, .ref (lo + x0)), (1, .ref (lo + x1)), (2, .int x2)] [.int r75] h73
      refine a_aload_n C dX12_goThrough_34 rfl 0 rfl ?_
      obtain ⟨g82, e81, e⟩ := bA_some e
      refine a_getI C cb11 24 (by decide) fl_X12_199 rfl dX12_goThrough_35 e81 ?_
      refine a_icmp_eq (tgt := 44) C dX12_goThrough_38 (by decide) (fun c83 => ?_) (fun c83 => ?_)
      · have e := ip c83 e
        refine a_aload_n C dX12_goThrough_44 rfl 0 rfl ?_
        refine a_iload_n C dX12_goThrough_45 rfl 2 rfl ?_
        obtain ⟨u90, ec89, e⟩ := bA_some e
        obtain ⟨fs88, eo87⟩ := isC_some ec89
        obtain ⟨r86, h84, e85, e⟩ := b2_some e
        refine a_callV (as := [.int x2]) (rest := []) C m_X12_isOpen im_X12_isOpen cb11 se_X12_X12_isOpen_X12_isOpen ml_X12_202 rfl (Nat.le_of_ble_eq_true rfl) (Nat.le_of_ble_eq_true rfl) (Nat.le_of_ble_eq_true rfl) (Nat.le_of_ble_eq_true rfl) (Nat.le_of_ble_eq_true rfl) dX12_goThrough_46 eo87 (k_X12_isOpen e85) rfl ?_
        show AW G lo 0 0 49 [(0, .ref (lo + x0)), (1, .ref (lo + x1)), (2, .int x2)] [.int r86] h84
        obtain ⟨j94, h95, eb97, e⟩ := b2_some e
        have jj96 : AW G lo 0 0 62 [(0, .ref (lo + x0)), (1, .ref (lo + x1)), (2, .int x2)] [.int j94] h95 := by
          refine a_istore_n (lv2 := [(3, .int j94), (0, .ref (lo + x0)), (1, .ref (lo + x1)), (2, .int x2)]) C dX12_goThrough_62 rfl (by decide) rfl ?_
          refine a_aload_n C dX12_goThrough_63 rfl 1 rfl ?_
          refine a_iload_n C dX12_goThrough_64 rfl 0 rfl ?_
          obtain ⟨j108, h109, eb111, e⟩ := b2_some e
          have jj110 : AW G lo 0 0 93 [(0, .ref (lo + x0)), (1, .ref (lo + x1)), (2, .int x2), (3, .int j94)] [.int j108, .ref (lo + x0)] h109 := by
            obtain ⟨h133, e132, e⟩ := bA_some e
            refine a_putI C cb11 24 (by decide) fl_X12_199 rfl (by decide +kernel) dX12_goThrough_93 e132 ?_
            refine a_iload_n C dX12_goThrough_96 rfl 3 rfl ?_
            obtain ⟨rfl, rfl⟩ := sp2 e
            exact a_iret C q (Nat.le_of_ble_eq_true rfl) (Nat.le_of_ble_eq_true rfl) dX12_goThrough_97
          have e := eb111
          refine a_if_ne (tgt := 89) C dX12_goThrough_65 (by decide) (fun c107 => ?_) (fun c107 => ?_)
          · have e := iN c107 e
            refine a_aload_n C dX12_goThrough_89 rfl 1 rfl ?_
            obtain ⟨g113, e112, e⟩ := bA_some e
            refine a_getI C cb11 24 (by decide) fl_X12_199 rfl dX12_goThrough_90 e112 ?_
            obtain ⟨rfl, rfl⟩ := sp2 e
            exact a_widen (Nat.le_of_ble_eq_true rfl) (Nat.le_of_ble_eq_true rfl) (a_sub [1, 2, 3, 0] rfl jj110)
          · have e := ip c107 e
            refine a_aload_n C dX12_goThrough_68 rfl 2 rfl ?_
            refine a_iload_n C dX12_goThrough_69 rfl 3 rfl ?_
            refine a_iconst (v := (1 : Int32)) C dX12_goThrough_70 (by decide) ?_
            obtain ⟨r116, h114, e115, e⟩ := b2_some e
            refine a_callS (as := [.ref (lo + x1), .int x2, .int (1 : Int32)]) (rest := [.ref (lo + x0)]) C m_X12_of sm_X12_of ml_X12_167 rfl (Nat.le_of_ble_eq_true rfl) (Nat.le_of_ble_eq_true rfl) (Nat.le_of_ble_eq_true rfl) (Nat.le_of_ble_eq_true rfl) (Nat.le_of_ble_eq_true rfl) dX12_goThrough_71 (k_X12_of e115) rfl ?_
            show AW G lo 0 0 74 [(3, .int j94), (0, .ref (lo + x0)), (1, .ref (lo + x1)), (2, .int x2)] [.int r116, .ref (lo + x0)] h114
            refine a_aload_n C dX12_goThrough_74 rfl 2 rfl ?_
            refine a_iload_n C dX12_goThrough_75 rfl 3 rfl ?_
            refine a_iconst (v := (2 : Int32)) C dX12_goThrough_76 (by decide) ?_
            obtain ⟨r124, h122, e123, e⟩ := b2_some e
            refine a_callS (as := [.ref (lo + x1), .int x2, .int (2 : Int32)]) (rest := [.int r116, .ref (lo + x0)]) C m_X12_of sm_X12_of ml_X12_167 rfl (Nat.le_of_ble_eq_true rfl) (Nat.le_of_ble_eq_true rfl) (Nat.le_of_ble_eq_true rfl) (Nat.le_of_ble_eq_true rfl) (Nat.le_of_ble_eq_true rfl) dX12_goThrough_77 (k_X12_of e123) rfl ?_
            show AW G lo 0 0 80 [(3, .int j94), (0, .ref (lo + x0)), (1, .ref (lo + x1)), (2, .int x2)] [.int r124, .int r116, .ref (lo + x0)] h122
            refine a_iadd C dX12_goThrough_80 ?_
            refine a_aload_n C dX12_goThrough_81 rfl 1 rfl ?_
            obtain ⟨g131, e130, e⟩ := bA_some e
            refine a_getI C cb11 24 (by decide) fl_X12_199 rfl dX12_goThrough_82 e130 ?_
            refine a_isub C dX12_goThrough_85 ?_
            refine a_goto (tgt := 93) C dX12_goThrough_86 (by decide) ?_
            obtain ⟨rfl, rfl⟩ := sp2 e
            exact a_widen (Nat.le_of_ble_eq_true rfl) (Nat.le_of_ble_eq_true rfl) (a_sub [1, 2, 3, 0] rfl jj110)
        have e := eb97
        refine a_if_eq (tgt := 56) C dX12_goThrough_49 (by decide) (fun c93 => ?_) (fun c93 => ?_)
        · have e := ip c93 e
          refine a_aload_n C dX12_goThrough_56 rfl 0 rfl ?_
          refine a_aload_n C dX12_goThrough_57 rfl 1 rfl ?_
          refine a_iload_n C dX12_goThrough_58 rfl 2 rfl ?_
          obtain ⟨u104, ec103, e⟩ := bA_some e
          obtain ⟨fs102, eo101⟩ := isC_some ec103
          obtain ⟨r100, h98, e99, e⟩ := b2_some e
          refine a_callV (as := [.ref (lo + x1), .int x2]) (rest := []) C m_X12_open im_X12_open cb11 se_X12_X12_open_X12_open ml_X12_205 rfl (Nat.le_of_ble_eq_true rfl) (Nat.le_of_ble_eq_true rfl) (Nat.le_of_ble_eq_true rfl) (Nat.le_of_ble_eq_true rfl) (Nat.le_of_ble_eq_true rfl) dX12_goThrough_59 eo101 (k_X12_open e99) rfl ?_
          show AW G lo 0 0 62 [(0, .ref (lo + x0)), (1, .ref (lo + x1)), (2, .int x2)] [.int r100] h98
          obtain ⟨rfl, rfl⟩ := sp2 e
          exact a_widen (Nat.le_of_ble_eq_true rfl) (Nat.le_of_ble_eq_true rfl) (a_sub [0, 1, 2] rfl jj96)
        · have e := iN c93 e
          refine a_iconst (v := (0 : Int32)) C dX12_goThrough_52 (by decide) ?_
          refine a_goto (tgt := 62) C dX12_goThrough_53 (by decide) ?_
          obtain ⟨rfl, rfl⟩ := sp2 e
          exact a_widen (Nat.le_of_ble_eq_true rfl) (Nat.le_of_ble_eq_true rfl) (a_sub [0, 1, 2] rfl jj96)
      · have e := iN c83 e
        refine a_bipush (v := (6 : Int32)) C dX12_goThrough_41 (by decide) ?_
        obtain ⟨rfl, rfl⟩ := sp2 e
        exact a_iret C q (Nat.le_of_ble_eq_true rfl) (Nat.le_of_ble_eq_true rfl) dX12_goThrough_43

set_option maxRecDepth 100000 in
def f_X12_goOut_L27 {β : Type} (k : Int32 → Hp → Option (β)) (x0 : Nat) (x1 : Nat) (x2 : Int32) : Nat → Hp → Int32 → Option (β)
  | 0, _, _ => none
  | fuel + 1, h, x3 => (if x2 ≤ x3 then k x3 h else bA (gI h x0 11 25) fun g13 => (if g13 = 0 then bA (gN h x0 11 19) fun a16 => bA (ald h a16 0 x3) fun v17 => bA (isC h x0 11) fun u25 => b2 (f_X12_goThrough h x0 x1 v17) fun r21 h19 => bA (pV h19 x0 11 25 (.inl r21)) fun h29 => f_X12_goOut_L27 k x0 x1 x2 fuel h29 (x3 + (1 : Int32)) else k x3 h))

set_option maxRecDepth 100000 in
def f_X12_goOut (h : Hp) (x0 : Nat) (x1 : Nat) (x2 : Int32) : Option (Int32 × Hp) := bA (pV h x0 11 21 (.inl (0 : Int32))) fun h2 => bA (pV h2 x0 11 22 (.inl (0 : Int32))) fun h4 => bA (pV h4 x0 11 23 (.inl (0 : Int32))) fun h6 => bA (pV h6 x0 11 24 (.inl (0 : Int32))) fun h8 => bA (pV h8 x0 11 25 (.inl (0 : Int32))) fun h10 => f_X12_goOut_L27 (fun y31 h30 => bA (gI h30 x0 11 25) fun g33 => (if g33 = 0 then bA (gI h30 x0 11 24) fun g36 => bA (ald h30 x1 0 ((6 : Int32) + g36)) fun v37 => bA (if v37 = 0 then some (11 : Int32) else some (0 : Int32)) fun j40 => bA (pV h30 x0 11 25 (.inl j40)) fun h44 => bA (gI h44 x0 11 24) fun g46 => bA (ast h44 x1 0 ((6 : Int32) + g46) (0 : Int32)) fun h47 => bA (ald h47 x1 0 (5 : Int32)) fun v49 => bA (ast h47 x1 0 (5 : Int32) (v49 + v37)) fun h51 => some (v37, h51) else some ((0 : Int32), h30))) x0 x1 x2 2000 h10 (0 : Int32)

theorem m_X12_goOut : MI yX12_goOut cX12_goOut 4 (some .int) 2 := ⟨co_X12_goOut, ini_X12, by decide, by decide +kernel⟩
set_option maxRecDepth 100000 in
set_option maxHeartbeats 4000000 in
theorem w_X12_goOut_L27 {G : Gm} {lo : Nat} {ce sl : Nat} (C : CX G lo cX12_goOut RX12 (some .int) ({ frames := 5, cells := 0, slots := 0, locals := 114 } : Room) 4) {β : Type} {res : β} {k : Int32 → Hp → Option (β)} {x0 : Nat} {x1 : Nat} {x2 : Int32} (hk : ∀ (h : Hp) (x3 : Int32), k x3 h = some res → AW G lo ce sl 60 [(0, .ref (lo + x0)), (1, .ref (lo + x1)), (2, .int x2), (3, .int x3)] [] h) (hce : ce ≤ 0) (hsl : sl ≤ 0) : ∀ (fuel : Nat) (h : Hp) (x3 : Int32), f_X12_goOut_L27 k x0 x1 x2 fuel h x3 = some res → AW G lo ce sl 27 [(0, .ref (lo + x0)), (1, .ref (lo + x1)), (2, .int x2), (3, .int x3)] [] h := by
  intro fuel
  induction fuel with
  | zero =>
    intro h x3 e
    cases (show (none : Option (β)) = some res from e)
  | succ fuel ih =>
    intro h x3 e
    rw [f_X12_goOut_L27] at e
    refine a_iload_n C dX12_goOut_27 rfl 3 rfl ?_
    refine a_iload_n C dX12_goOut_28 rfl 2 rfl ?_
    refine a_icmp_ge (tgt := 60) C dX12_goOut_29 (by decide) (fun c11 => ?_) (fun c11 => ?_)
    · have e := ip c11 e
      exact a_sub [0, 1, 2, 3] rfl (hk _ _ e)
    · have e := iN c11 e
      refine a_aload_n C dX12_goOut_32 rfl 0 rfl ?_
      obtain ⟨g13, e12, e⟩ := bA_some e
      refine a_getI C cb11 25 (by decide) fl_X12_208 rfl dX12_goOut_33 e12 ?_
      refine a_if_ne (tgt := 60) C dX12_goOut_36 (by decide) (fun c14 => ?_) (fun c14 => ?_)
      · have e := iN c14 e
        exact a_sub [0, 1, 2, 3] rfl (hk _ _ e)
      · have e := ip c14 e
        refine a_aload_n C dX12_goOut_39 rfl 0 rfl ?_
        refine a_aload_n C dX12_goOut_40 rfl 0 rfl ?_
        refine a_aload_n C dX12_goOut_41 rfl 1 rfl ?_
        refine a_aload_n C dX12_goOut_42 rfl 0 rfl ?_
        obtain ⟨a16, e15, e⟩ := bA_some e
        refine a_getN C cb11 19 (by decide) fl_X12_34 rfl dX12_goOut_43 e15 ?_
        refine a_iload_n C dX12_goOut_46 rfl 3 rfl ?_
        obtain ⟨v17, e18, e⟩ := bA_some e
        refine a_iald C dX12_goOut_47 e18 ?_
        obtain ⟨u25, ec24, e⟩ := bA_some e
        obtain ⟨fs23, eo22⟩ := isC_some ec24
        obtain ⟨r21, h19, e20, e⟩ := b2_some e
        refine a_callV (as := [.ref (lo + x1), .int v17]) (rest := [.ref (lo + x0)]) C m_X12_goThrough im_X12_goThrough cb11 se_X12_X12_goThrough_X12_goThrough ml_X12_211 rfl (Nat.le_of_ble_eq_true rfl) (Nat.le_of_ble_eq_true rfl) (by exact hce) (by exact hsl) (Nat.le_of_ble_eq_true rfl) dX12_goOut_48 eo22 (k_X12_goThrough e20) rfl ?_
        show AW G lo ce sl 51 [(0, .ref (lo + x0)), (1, .ref (lo + x1)), (2, .int x2), (3, .int x3)] [.int r21, .ref (lo + x0)] h19
        obtain ⟨h29, e28, e⟩ := bA_some e
        refine a_putI C cb11 25 (by decide) fl_X12_208 rfl (by decide +kernel) dX12_goOut_51 e28 ?_
        refine a_iinc (v := x3 + (1 : Int32)) (lv2 := [(3, .int (x3 + (1 : Int32))), (0, .ref (lo + x0)), (1, .ref (lo + x1)), (2, .int x2)]) C dX12_goOut_54 3 rfl rfl (by decide) rfl ?_
        refine a_goto (tgt := 27) C dX12_goOut_57 (by decide) ?_
        exact a_sub [1, 2, 3, 0] rfl (ih _ _ e)
set_option maxRecDepth 100000 in
set_option maxHeartbeats 4000000 in
theorem k_X12_goOut {lo : Nat} {h : Hp} {x0 : Nat} {x1 : Nat} {x2 : Int32} {r : Int32} {h' : Hp} (e : f_X12_goOut h x0 x1 x2 = some (r, h')) : ∀ l d, AC l d lo yX12_goOut cX12_goOut 4 (some .int) ({ frames := 5, cells := 0, slots := 0, locals := 114 } : Room) [.ref (lo + x0), .ref (lo + x1), .int x2] h (some (.int r)) h' := by
  intro l d
  refine AC_of (by decide) (Nat.le_of_ble_eq_true rfl) ?_
  intro G C _ _ q
  unfold f_X12_goOut at e
  show AW G lo 0 0 0 [(0, .ref (lo + x0)), (1, .ref (lo + x1)), (2, .int x2)] [] h
  refine a_aload_n C dX12_goOut_0 rfl 0 rfl ?_
  refine a_iconst (v := (0 : Int32)) C dX12_goOut_1 (by decide) ?_
  obtain ⟨h2, e1, e⟩ := bA_some e
  refine a_putI C cb11 21 (by decide) fl_X12_171 rfl (by decide +kernel) dX12_goOut_2 e1 ?_
  refine a_aload_n C dX12_goOut_5 rfl 0 rfl ?_
  refine a_iconst (v := (0 : Int32)) C dX12_goOut_6 (by decide) ?_
  obtain ⟨h4, e3, e⟩ := bA_some e
  refine a_putI C cb11 22 (by decide) fl_X12_182 rfl (by decide +kernel) dX12_goOut_7 e3 ?_
  refine a_aload_n C dX12_goOut_10 rfl 0 rfl ?_
  refine a_iconst (v := (0 : Int32)) C dX12_goOut_11 (by decide) ?_
  obtain ⟨h6, e5, e⟩ := bA_some e
  refine a_putI C cb11 23 (by decide) fl_X12_196 rfl (by decide +kernel) dX12_goOut_12 e5 ?_
  refine a_aload_n C dX12_goOut_15 rfl 0 rfl ?_
  refine a_iconst (v := (0 : Int32)) C dX12_goOut_16 (by decide) ?_
  obtain ⟨h8, e7, e⟩ := bA_some e
  refine a_putI C cb11 24 (by decide) fl_X12_199 rfl (by decide +kernel) dX12_goOut_17 e7 ?_
  refine a_aload_n C dX12_goOut_20 rfl 0 rfl ?_
  refine a_iconst (v := (0 : Int32)) C dX12_goOut_21 (by decide) ?_
  obtain ⟨h10, e9, e⟩ := bA_some e
  refine a_putI C cb11 25 (by decide) fl_X12_208 rfl (by decide +kernel) dX12_goOut_22 e9 ?_
  refine a_iconst (v := (0 : Int32)) C dX12_goOut_25 (by decide) ?_
  refine a_istore_n (lv2 := [(3, .int (0 : Int32)), (0, .ref (lo + x0)), (1, .ref (lo + x1)), (2, .int x2)]) C dX12_goOut_26 rfl (by decide) rfl ?_
  refine a_sub [1, 2, 3, 0] rfl (w_X12_goOut_L27 C ?_ (Nat.le_of_ble_eq_true rfl) (Nat.le_of_ble_eq_true rfl) 2000 _ _ e)
  intro h30 y31 e
  show AW G lo 0 0 60 [(0, .ref (lo + x0)), (1, .ref (lo + x1)), (2, .int x2), (3, .int y31)] [] h30
  refine a_aload_n C dX12_goOut_60 rfl 0 rfl ?_
  obtain ⟨g33, e32, e⟩ := bA_some e
  refine a_getI C cb11 25 (by decide) fl_X12_208 rfl dX12_goOut_61 e32 ?_
  refine a_if_eq (tgt := 69) C dX12_goOut_64 (by decide) (fun c34 => ?_) (fun c34 => ?_)
  · have e := ip c34 e
    refine a_aload_n C dX12_goOut_69 rfl 1 rfl ?_
    refine a_bipush (v := (6 : Int32)) C dX12_goOut_70 (by decide) ?_
    refine a_aload_n C dX12_goOut_72 rfl 0 rfl ?_
    obtain ⟨g36, e35, e⟩ := bA_some e
    refine a_getI C cb11 24 (by decide) fl_X12_199 rfl dX12_goOut_73 e35 ?_
    refine a_iadd C dX12_goOut_76 ?_
    obtain ⟨v37, e38, e⟩ := bA_some e
    refine a_iald C dX12_goOut_77 e38 ?_
    refine a_istore_n (lv2 := [(3, .int v37), (0, .ref (lo + x0)), (1, .ref (lo + x1)), (2, .int x2)]) C dX12_goOut_78 rfl (by decide) rfl ?_
    refine a_aload_n C dX12_goOut_79 rfl 1 rfl ?_
    refine a_iload_n C dX12_goOut_80 rfl 0 rfl ?_
    obtain ⟨j40, eb42, e⟩ := bA_some e
    have jj41 : AW G lo 0 0 90 [(0, .ref (lo + x0)), (1, .ref (lo + x1)), (2, .int x2), (3, .int v37)] [.int j40, .ref (lo + x0)] h30 := by
      obtain ⟨h44, e43, e⟩ := bA_some e
      refine a_putI C cb11 25 (by decide) fl_X12_208 rfl (by decide +kernel) dX12_goOut_90 e43 ?_
      refine a_aload_n C dX12_goOut_93 rfl 1 rfl ?_
      refine a_bipush (v := (6 : Int32)) C dX12_goOut_94 (by decide) ?_
      refine a_aload_n C dX12_goOut_96 rfl 0 rfl ?_
      obtain ⟨g46, e45, e⟩ := bA_some e
      refine a_getI C cb11 24 (by decide) fl_X12_199 rfl dX12_goOut_97 e45 ?_
      refine a_iadd C dX12_goOut_100 ?_
      refine a_iconst (v := (0 : Int32)) C dX12_goOut_101 (by decide) ?_
      obtain ⟨h47, e48, e⟩ := bA_some e
      refine a_iast C dX12_goOut_102 e48 ?_
      refine a_aload_n C dX12_goOut_103 rfl 1 rfl ?_
      refine a_iconst (v := (5 : Int32)) C dX12_goOut_104 (by decide) ?_
      refine a_dup2 C dX12_goOut_105 rfl rfl ?_
      obtain ⟨v49, e50, e⟩ := bA_some e
      refine a_iald C dX12_goOut_106 e50 ?_
      refine a_iload_n C dX12_goOut_107 rfl 3 rfl ?_
      refine a_iadd C dX12_goOut_108 ?_
      obtain ⟨h51, e52, e⟩ := bA_some e
      refine a_iast C dX12_goOut_109 e52 ?_
      refine a_iload_n C dX12_goOut_110 rfl 3 rfl ?_
      obtain ⟨rfl, rfl⟩ := sp2 e
      exact a_iret C q (Nat.le_of_ble_eq_true rfl) (Nat.le_of_ble_eq_true rfl) dX12_goOut_111
    have e := eb42
    refine a_if_ne (tgt := 89) C dX12_goOut_81 (by decide) (fun c39 => ?_) (fun c39 => ?_)
    · have e := iN c39 e
      refine a_iconst (v := (0 : Int32)) C dX12_goOut_89 (by decide) ?_
      obtain rfl := sp1 e
      exact a_widen (Nat.le_of_ble_eq_true rfl) (Nat.le_of_ble_eq_true rfl) (a_sub [1, 2, 3, 0] rfl jj41)
    · have e := ip c39 e
      refine a_bipush (v := (11 : Int32)) C dX12_goOut_84 (by decide) ?_
      refine a_goto (tgt := 90) C dX12_goOut_86 (by decide) ?_
      obtain rfl := sp1 e
      exact a_widen (Nat.le_of_ble_eq_true rfl) (Nat.le_of_ble_eq_true rfl) (a_sub [1, 2, 3, 0] rfl jj41)
  · have e := iN c34 e
    refine a_iconst (v := (0 : Int32)) C dX12_goOut_67 (by decide) ?_
    obtain ⟨rfl, rfl⟩ := sp2 e
    exact a_iret C q (Nat.le_of_ble_eq_true rfl) (Nat.le_of_ble_eq_true rfl) dX12_goOut_68

set_option maxRecDepth 100000 in
def f_X12_layThen_L2 {β : Type} (k : Int32 → Hp → Option (β)) (x0 : Nat) : Nat → Hp → Int32 → Option (β)
  | 0, _, _ => none
  | fuel + 1, h, x1 => (if (54 : Int32) ≤ x1 then k x1 h else bA (gN h x0 11 7) fun a3 => bA (gN h x0 11 5) fun a5 => bA (ald h a5 0 x1) fun v6 => bA (ast h a3 0 x1 v6) fun h8 => f_X12_layThen_L2 k x0 fuel h8 (x1 + (1 : Int32)))

set_option maxRecDepth 100000 in
def f_X12_layThen (h : Hp) (x0 : Nat) : Option (Hp) := f_X12_layThen_L2 (fun y11 h10 => some h10) x0 2000 h (0 : Int32)

theorem m_X12_layThen : MI yX12_layThen cX12_layThen 2 none 0 := ⟨co_X12_layThen, ini_X12, by decide, by decide +kernel⟩
set_option maxRecDepth 100000 in
set_option maxHeartbeats 4000000 in
theorem w_X12_layThen_L2 {G : Gm} {lo : Nat} {ce sl : Nat} (C : CX G lo cX12_layThen RX12 none ({ frames := 0, cells := 0, slots := 0, locals := 0 } : Room) 2) {β : Type} {res : β} {k : Int32 → Hp → Option (β)} {x0 : Nat} (hk : ∀ (h : Hp) (x1 : Int32), k x1 h = some res → AW G lo ce sl 26 [(0, .ref (lo + x0)), (1, .int x1)] [] h) (hce : ce ≤ 0) (hsl : sl ≤ 0) : ∀ (fuel : Nat) (h : Hp) (x1 : Int32), f_X12_layThen_L2 k x0 fuel h x1 = some res → AW G lo ce sl 2 [(0, .ref (lo + x0)), (1, .int x1)] [] h := by
  intro fuel
  induction fuel with
  | zero =>
    intro h x1 e
    cases (show (none : Option (β)) = some res from e)
  | succ fuel ih =>
    intro h x1 e
    rw [f_X12_layThen_L2] at e
    refine a_iload_n C dX12_layThen_2 rfl 1 rfl ?_
    refine a_bipush (v := (54 : Int32)) C dX12_layThen_3 (by decide) ?_
    refine a_icmp_ge (tgt := 26) C dX12_layThen_5 (by decide) (fun c1 => ?_) (fun c1 => ?_)
    · have e := ip c1 e
      exact a_sub [0, 1] rfl (hk _ _ e)
    · have e := iN c1 e
      refine a_aload_n C dX12_layThen_8 rfl 0 rfl ?_
      obtain ⟨a3, e2, e⟩ := bA_some e
      refine a_getN C cb11 7 (by decide) fl_X12_25 rfl dX12_layThen_9 e2 ?_
      refine a_iload_n C dX12_layThen_12 rfl 1 rfl ?_
      refine a_aload_n C dX12_layThen_13 rfl 0 rfl ?_
      obtain ⟨a5, e4, e⟩ := bA_some e
      refine a_getN C cb11 5 (by decide) fl_X12_19 rfl dX12_layThen_14 e4 ?_
      refine a_iload_n C dX12_layThen_17 rfl 1 rfl ?_
      obtain ⟨v6, e7, e⟩ := bA_some e
      refine a_iald C dX12_layThen_18 e7 ?_
      obtain ⟨h8, e9, e⟩ := bA_some e
      refine a_iast C dX12_layThen_19 e9 ?_
      refine a_iinc (v := x1 + (1 : Int32)) (lv2 := [(1, .int (x1 + (1 : Int32))), (0, .ref (lo + x0))]) C dX12_layThen_20 1 rfl rfl (by decide) rfl ?_
      refine a_goto (tgt := 2) C dX12_layThen_23 (by decide) ?_
      exact a_sub [1, 0] rfl (ih _ _ e)
set_option maxRecDepth 100000 in
set_option maxHeartbeats 4000000 in
theorem k_X12_layThen {lo : Nat} {h : Hp} {x0 : Nat} {h' : Hp} (e : f_X12_layThen h x0 = some h') : ∀ l d, AC l d lo yX12_layThen cX12_layThen 2 none ({ frames := 0, cells := 0, slots := 0, locals := 0 } : Room) [.ref (lo + x0)] h none h' := by
  intro l d
  refine AC_of (by decide) (Nat.le_of_ble_eq_true rfl) ?_
  intro G C _ _ q
  unfold f_X12_layThen at e
  show AW G lo 0 0 0 [(0, .ref (lo + x0))] [] h
  refine a_iconst (v := (0 : Int32)) C dX12_layThen_0 (by decide) ?_
  refine a_istore_n (lv2 := [(1, .int (0 : Int32)), (0, .ref (lo + x0))]) C dX12_layThen_1 rfl (by decide) rfl ?_
  refine a_sub [1, 0] rfl (w_X12_layThen_L2 C ?_ (Nat.le_of_ble_eq_true rfl) (Nat.le_of_ble_eq_true rfl) 2000 _ _ e)
  intro h10 y11 e
  show AW G lo 0 0 26 [(0, .ref (lo + x0)), (1, .int y11)] [] h10
  obtain rfl := sp1 e
  exact a_vret C q (Nat.le_of_ble_eq_true rfl) (Nat.le_of_ble_eq_true rfl) dX12_layThen_26

set_option maxRecDepth 100000 in
def f_X12_writes (h : Hp) (x0 : Nat) (x1 : Int32) : Option (Hp) := bA (gN h x0 11 26) fun a2 => bA (gI h x0 11 27) fun g4 => bA (ast h a2 0 g4 x1) fun h5 => bA (gI h5 x0 11 27) fun g8 => bA (pV h5 x0 11 27 (.inl (g8 + (1 : Int32)))) fun h10 => some h10

theorem m_X12_writes : MI yX12_writes cX12_writes 2 none 1 := ⟨co_X12_writes, ini_X12, by decide, by decide +kernel⟩
set_option maxRecDepth 100000 in
set_option maxHeartbeats 4000000 in
theorem k_X12_writes {lo : Nat} {h : Hp} {x0 : Nat} {x1 : Int32} {h' : Hp} (e : f_X12_writes h x0 x1 = some h') : ∀ l d, AC l d lo yX12_writes cX12_writes 2 none ({ frames := 0, cells := 0, slots := 0, locals := 0 } : Room) [.ref (lo + x0), .int x1] h none h' := by
  intro l d
  refine AC_of (by decide) (Nat.le_of_ble_eq_true rfl) ?_
  intro G C _ _ q
  unfold f_X12_writes at e
  show AW G lo 0 0 0 [(0, .ref (lo + x0)), (1, .int x1)] [] h
  refine a_aload_n C dX12_writes_0 rfl 0 rfl ?_
  obtain ⟨a2, e1, e⟩ := bA_some e
  refine a_getN C cb11 26 (by decide) fl_X12_40 rfl dX12_writes_1 e1 ?_
  refine a_aload_n C dX12_writes_4 rfl 0 rfl ?_
  obtain ⟨g4, e3, e⟩ := bA_some e
  refine a_getI C cb11 27 (by decide) fl_X12_164 rfl dX12_writes_5 e3 ?_
  refine a_iload_n C dX12_writes_8 rfl 1 rfl ?_
  obtain ⟨h5, e6, e⟩ := bA_some e
  refine a_iast C dX12_writes_9 e6 ?_
  refine a_aload_n C dX12_writes_10 rfl 0 rfl ?_
  refine a_dup C dX12_writes_11 rfl ?_
  obtain ⟨g8, e7, e⟩ := bA_some e
  refine a_getI C cb11 27 (by decide) fl_X12_164 rfl dX12_writes_12 e7 ?_
  refine a_iconst (v := (1 : Int32)) C dX12_writes_15 (by decide) ?_
  refine a_iadd C dX12_writes_16 ?_
  obtain ⟨h10, e9, e⟩ := bA_some e
  refine a_putI C cb11 27 (by decide) fl_X12_164 rfl (by decide +kernel) dX12_writes_17 e9 ?_
  obtain rfl := sp1 e
  exact a_vret C q (Nat.le_of_ble_eq_true rfl) (Nat.le_of_ble_eq_true rfl) dX12_writes_20

set_option maxRecDepth 100000 in
def f_X12_keep_L11 {β : Type} (k : Int32 → Hp → Option (β)) (x0 : Nat) : Nat → Hp → Int32 → Option (β)
  | 0, _, _ => none
  | fuel + 1, h, x1 => (if (1242 : Int32) ≤ x1 then k x1 h else bA (gN h x0 11 8) fun a9 => bA (gN h x0 11 8) fun a11 => bA (ald h a11 0 (x1 + (54 : Int32))) fun v12 => bA (ast h a9 0 x1 v12) fun h14 => f_X12_keep_L11 k x0 fuel h14 (x1 + (1 : Int32)))

set_option maxRecDepth 100000 in
def f_X12_keep_L51 {β : Type} (k : Int32 → Hp → Option (β)) (x0 : Nat) : Nat → Hp → Int32 → Option (β)
  | 0, _, _ => none
  | fuel + 1, h, x1 => (if (54 : Int32) ≤ x1 then k x1 h else bA (gN h x0 11 8) fun a24 => bA (gI h x0 11 9) fun g26 => bA (gN h x0 11 5) fun a28 => bA (ald h a28 0 x1) fun v29 => bA (ast h a24 0 (((54 : Int32) * g26) + x1) v29) fun h31 => f_X12_keep_L51 k x0 fuel h31 (x1 + (1 : Int32)))

set_option maxRecDepth 100000 in
def f_X12_keep (h : Hp) (x0 : Nat) : Option (Hp) := bA (gI h x0 11 9) fun g2 => bA (if g2 = (24 : Int32) then f_X12_keep_L11 (fun y17 h16 => bA (gI h16 x0 11 9) fun g19 => bA (pV h16 x0 11 9 (.inl (g19 - (1 : Int32)))) fun h21 => some h21) x0 2000 h (0 : Int32) else some h) fun h4 => f_X12_keep_L51 (fun y34 h33 => bA (gI h33 x0 11 9) fun g36 => bA (pV h33 x0 11 9 (.inl (g36 + (1 : Int32)))) fun h38 => some h38) x0 2000 h4 (0 : Int32)

theorem m_X12_keep : MI yX12_keep cX12_keep 2 none 0 := ⟨co_X12_keep, ini_X12, by decide, by decide +kernel⟩
set_option maxRecDepth 100000 in
set_option maxHeartbeats 4000000 in
theorem w_X12_keep_L11 {G : Gm} {lo : Nat} {ce sl : Nat} (C : CX G lo cX12_keep RX12 none ({ frames := 0, cells := 0, slots := 0, locals := 0 } : Room) 2) {β : Type} {res : β} {k : Int32 → Hp → Option (β)} {x0 : Nat} (hk : ∀ (h : Hp) (x1 : Int32), k x1 h = some res → AW G lo ce sl 39 [(0, .ref (lo + x0)), (1, .int x1)] [] h) (hce : ce ≤ 0) (hsl : sl ≤ 0) : ∀ (fuel : Nat) (h : Hp) (x1 : Int32), f_X12_keep_L11 k x0 fuel h x1 = some res → AW G lo ce sl 11 [(0, .ref (lo + x0)), (1, .int x1)] [] h := by
  intro fuel
  induction fuel with
  | zero =>
    intro h x1 e
    cases (show (none : Option (β)) = some res from e)
  | succ fuel ih =>
    intro h x1 e
    rw [f_X12_keep_L11] at e
    refine a_iload_n C dX12_keep_11 rfl 1 rfl ?_
    refine a_sipush (v := (1242 : Int32)) C dX12_keep_12 (by decide) ?_
    refine a_icmp_ge (tgt := 39) C dX12_keep_15 (by decide) (fun c7 => ?_) (fun c7 => ?_)
    · have e := ip c7 e
      exact a_sub [0, 1] rfl (hk _ _ e)
    · have e := iN c7 e
      refine a_aload_n C dX12_keep_18 rfl 0 rfl ?_
      obtain ⟨a9, e8, e⟩ := bA_some e
      refine a_getN C cb11 8 (by decide) fl_X12_28 rfl dX12_keep_19 e8 ?_
      refine a_iload_n C dX12_keep_22 rfl 1 rfl ?_
      refine a_aload_n C dX12_keep_23 rfl 0 rfl ?_
      obtain ⟨a11, e10, e⟩ := bA_some e
      refine a_getN C cb11 8 (by decide) fl_X12_28 rfl dX12_keep_24 e10 ?_
      refine a_iload_n C dX12_keep_27 rfl 1 rfl ?_
      refine a_bipush (v := (54 : Int32)) C dX12_keep_28 (by decide) ?_
      refine a_iadd C dX12_keep_30 ?_
      obtain ⟨v12, e13, e⟩ := bA_some e
      refine a_iald C dX12_keep_31 e13 ?_
      obtain ⟨h14, e15, e⟩ := bA_some e
      refine a_iast C dX12_keep_32 e15 ?_
      refine a_iinc (v := x1 + (1 : Int32)) (lv2 := [(1, .int (x1 + (1 : Int32))), (0, .ref (lo + x0))]) C dX12_keep_33 1 rfl rfl (by decide) rfl ?_
      refine a_goto (tgt := 11) C dX12_keep_36 (by decide) ?_
      exact a_sub [1, 0] rfl (ih _ _ e)
set_option maxRecDepth 100000 in
set_option maxHeartbeats 4000000 in
theorem w_X12_keep_L51 {G : Gm} {lo : Nat} {ce sl : Nat} (C : CX G lo cX12_keep RX12 none ({ frames := 0, cells := 0, slots := 0, locals := 0 } : Room) 2) {β : Type} {res : β} {k : Int32 → Hp → Option (β)} {x0 : Nat} (hk : ∀ (h : Hp) (x1 : Int32), k x1 h = some res → AW G lo ce sl 83 [(0, .ref (lo + x0)), (1, .int x1)] [] h) (hce : ce ≤ 0) (hsl : sl ≤ 0) : ∀ (fuel : Nat) (h : Hp) (x1 : Int32), f_X12_keep_L51 k x0 fuel h x1 = some res → AW G lo ce sl 51 [(0, .ref (lo + x0)), (1, .int x1)] [] h := by
  intro fuel
  induction fuel with
  | zero =>
    intro h x1 e
    cases (show (none : Option (β)) = some res from e)
  | succ fuel ih =>
    intro h x1 e
    rw [f_X12_keep_L51] at e
    refine a_iload_n C dX12_keep_51 rfl 1 rfl ?_
    refine a_bipush (v := (54 : Int32)) C dX12_keep_52 (by decide) ?_
    refine a_icmp_ge (tgt := 83) C dX12_keep_54 (by decide) (fun c22 => ?_) (fun c22 => ?_)
    · have e := ip c22 e
      exact a_sub [0, 1] rfl (hk _ _ e)
    · have e := iN c22 e
      refine a_aload_n C dX12_keep_57 rfl 0 rfl ?_
      obtain ⟨a24, e23, e⟩ := bA_some e
      refine a_getN C cb11 8 (by decide) fl_X12_28 rfl dX12_keep_58 e23 ?_
      refine a_bipush (v := (54 : Int32)) C dX12_keep_61 (by decide) ?_
      refine a_aload_n C dX12_keep_63 rfl 0 rfl ?_
      obtain ⟨g26, e25, e⟩ := bA_some e
      refine a_getI C cb11 9 (by decide) fl_X12_161 rfl dX12_keep_64 e25 ?_
      refine a_imul C dX12_keep_67 ?_
      refine a_iload_n C dX12_keep_68 rfl 1 rfl ?_
      refine a_iadd C dX12_keep_69 ?_
      refine a_aload_n C dX12_keep_70 rfl 0 rfl ?_
      obtain ⟨a28, e27, e⟩ := bA_some e
      refine a_getN C cb11 5 (by decide) fl_X12_19 rfl dX12_keep_71 e27 ?_
      refine a_iload_n C dX12_keep_74 rfl 1 rfl ?_
      obtain ⟨v29, e30, e⟩ := bA_some e
      refine a_iald C dX12_keep_75 e30 ?_
      obtain ⟨h31, e32, e⟩ := bA_some e
      refine a_iast C dX12_keep_76 e32 ?_
      refine a_iinc (v := x1 + (1 : Int32)) (lv2 := [(1, .int (x1 + (1 : Int32))), (0, .ref (lo + x0))]) C dX12_keep_77 1 rfl rfl (by decide) rfl ?_
      refine a_goto (tgt := 51) C dX12_keep_80 (by decide) ?_
      exact a_sub [1, 0] rfl (ih _ _ e)
set_option maxRecDepth 100000 in
set_option maxHeartbeats 4000000 in
theorem k_X12_keep {lo : Nat} {h : Hp} {x0 : Nat} {h' : Hp} (e : f_X12_keep h x0 = some h') : ∀ l d, AC l d lo yX12_keep cX12_keep 2 none ({ frames := 0, cells := 0, slots := 0, locals := 0 } : Room) [.ref (lo + x0)] h none h' := by
  intro l d
  refine AC_of (by decide) (Nat.le_of_ble_eq_true rfl) ?_
  intro G C _ _ q
  unfold f_X12_keep at e
  show AW G lo 0 0 0 [(0, .ref (lo + x0))] [] h
  refine a_aload_n C dX12_keep_0 rfl 0 rfl ?_
  obtain ⟨g2, e1, e⟩ := bA_some e
  refine a_getI C cb11 9 (by decide) fl_X12_161 rfl dX12_keep_1 e1 ?_
  refine a_bipush (v := (24 : Int32)) C dX12_keep_4 (by decide) ?_
  obtain ⟨h4, eb6, e⟩ := bA_some e
  have jj5 : AW G lo 0 0 49 [(0, .ref (lo + x0))] [] h4 := by
    refine a_iconst (v := (0 : Int32)) C dX12_keep_49 (by decide) ?_
    refine a_istore_n (lv2 := [(1, .int (0 : Int32)), (0, .ref (lo + x0))]) C dX12_keep_50 rfl (by decide) rfl ?_
    refine a_sub [1, 0] rfl (w_X12_keep_L51 C ?_ (Nat.le_of_ble_eq_true rfl) (Nat.le_of_ble_eq_true rfl) 2000 _ _ e)
    intro h33 y34 e
    show AW G lo 0 0 83 [(0, .ref (lo + x0)), (1, .int y34)] [] h33
    refine a_aload_n C dX12_keep_83 rfl 0 rfl ?_
    refine a_dup C dX12_keep_84 rfl ?_
    obtain ⟨g36, e35, e⟩ := bA_some e
    refine a_getI C cb11 9 (by decide) fl_X12_161 rfl dX12_keep_85 e35 ?_
    refine a_iconst (v := (1 : Int32)) C dX12_keep_88 (by decide) ?_
    refine a_iadd C dX12_keep_89 ?_
    obtain ⟨h38, e37, e⟩ := bA_some e
    refine a_putI C cb11 9 (by decide) fl_X12_161 rfl (by decide +kernel) dX12_keep_90 e37 ?_
    obtain rfl := sp1 e
    exact a_vret C q (Nat.le_of_ble_eq_true rfl) (Nat.le_of_ble_eq_true rfl) dX12_keep_93
  have e := eb6
  refine a_icmp_ne (tgt := 49) C dX12_keep_6 (by decide) (fun c3 => ?_) (fun c3 => ?_)
  · have e := iN c3 e
    obtain rfl := sp1 e
    exact a_widen (Nat.le_of_ble_eq_true rfl) (Nat.le_of_ble_eq_true rfl) (a_sub [0] rfl jj5)
  · have e := ip c3 e
    refine a_iconst (v := (0 : Int32)) C dX12_keep_9 (by decide) ?_
    refine a_istore_n (lv2 := [(1, .int (0 : Int32)), (0, .ref (lo + x0))]) C dX12_keep_10 rfl (by decide) rfl ?_
    refine a_sub [1, 0] rfl (w_X12_keep_L11 C ?_ (Nat.le_of_ble_eq_true rfl) (Nat.le_of_ble_eq_true rfl) 2000 _ _ e)
    intro h16 y17 e
    show AW G lo 0 0 39 [(0, .ref (lo + x0)), (1, .int y17)] [] h16
    refine a_aload_n C dX12_keep_39 rfl 0 rfl ?_
    refine a_dup C dX12_keep_40 rfl ?_
    obtain ⟨g19, e18, e⟩ := bA_some e
    refine a_getI C cb11 9 (by decide) fl_X12_161 rfl dX12_keep_41 e18 ?_
    refine a_iconst (v := (1 : Int32)) C dX12_keep_44 (by decide) ?_
    refine a_isub C dX12_keep_45 ?_
    obtain ⟨h21, e20, e⟩ := bA_some e
    refine a_putI C cb11 9 (by decide) fl_X12_161 rfl (by decide +kernel) dX12_keep_46 e20 ?_
    obtain rfl := sp1 e
    exact a_widen (Nat.le_of_ble_eq_true rfl) (Nat.le_of_ble_eq_true rfl) (a_sub [0] rfl jj5)

set_option maxRecDepth 100000 in
def f_X12_isErrand (h : Hp) (x0 : Int32) (x1 : Int32) : Option (Int32 × Hp) := b2 (f_X12_isRow h x0) fun r3 h1 => b2 (if r3 = 0 then some ((0 : Int32), h1) else b2 (f_X12_in h1 x1.toInt64 (0 : Int64) (8 : Int64)) fun r16 h14 => (if r16 = 0 then some ((0 : Int32), h14) else some ((1 : Int32), h14))) fun j10 h11 => bA (bz j10) fun z23 => some (j10, h11)

theorem m_X12_isErrand : MI yX12_isErrand cX12_isErrand 2 (some .boolean) 2 := ⟨co_X12_isErrand, ini_X12, by decide, by decide +kernel⟩
set_option maxRecDepth 100000 in
set_option maxHeartbeats 4000000 in
theorem k_X12_isErrand {lo : Nat} {h : Hp} {x0 : Int32} {x1 : Int32} {r : Int32} {h' : Hp} (e : f_X12_isErrand h x0 x1 = some (r, h')) : ∀ l d, AC l d lo yX12_isErrand cX12_isErrand 2 (some .boolean) ({ frames := 2, cells := 0, slots := 0, locals := 45 } : Room) [.int x0, .int x1] h (some (.int r)) h' := by
  intro l d
  refine AC_of (by decide) (Nat.le_of_ble_eq_true rfl) ?_
  intro G C _ _ q
  unfold f_X12_isErrand at e
  show AW G lo 0 0 0 [(0, .int x0), (1, .int x1)] [] h
  refine a_iload_n C dX12_isErrand_0 rfl 0 rfl ?_
  obtain ⟨r3, h1, e2, e⟩ := b2_some e
  refine a_callS (as := [.int x0]) (rest := []) C m_X12_isRow sm_X12_isRow ml_X12_67 rfl (Nat.le_of_ble_eq_true rfl) (Nat.le_of_ble_eq_true rfl) (Nat.le_of_ble_eq_true rfl) (Nat.le_of_ble_eq_true rfl) (Nat.le_of_ble_eq_true rfl) dX12_isErrand_1 (k_X12_isRow e2) rfl ?_
  show AW G lo 0 0 4 [(0, .int x0), (1, .int x1)] [.int r3] h1
  obtain ⟨j10, h11, eb13, e⟩ := b2_some e
  have jj12 : AW G lo 0 0 24 [(0, .int x0), (1, .int x1)] [.int j10] h11 := by
    obtain ⟨z23, e24, e⟩ := bA_some e
    obtain ⟨rfl, rfl⟩ := sp2 e
    exact a_zret C q (bz_some e24) (Nat.le_of_ble_eq_true rfl) (Nat.le_of_ble_eq_true rfl) dX12_isErrand_24
  have e := eb13
  refine a_if_eq (tgt := 23) C dX12_isErrand_4 (by decide) (fun c9 => ?_) (fun c9 => ?_)
  · have e := ip c9 e
    refine a_iconst (v := (0 : Int32)) C dX12_isErrand_23 (by decide) ?_
    obtain ⟨rfl, rfl⟩ := sp2 e
    exact a_widen (Nat.le_of_ble_eq_true rfl) (Nat.le_of_ble_eq_true rfl) (a_sub [0, 1] rfl jj12)
  · have e := iN c9 e
    refine a_iload_n C dX12_isErrand_7 rfl 1 rfl ?_
    refine a_i2l C dX12_isErrand_8 ?_
    refine a_lconst (v := (0 : Int64)) C dX12_isErrand_9 (by decide) ?_
    refine a_ldc2 C kL_X12_214 dX12_isErrand_10 ?_
    obtain ⟨r16, h14, e15, e⟩ := b2_some e
    refine a_callS (as := [.long x1.toInt64, .long (0 : Int64), .long (8 : Int64)]) (rest := []) C m_X12_in sm_X12_in ml_X12_63 rfl (Nat.le_of_ble_eq_true rfl) (Nat.le_of_ble_eq_true rfl) (Nat.le_of_ble_eq_true rfl) (Nat.le_of_ble_eq_true rfl) (Nat.le_of_ble_eq_true rfl) dX12_isErrand_13 (k_X12_in e15) rfl ?_
    show AW G lo 0 0 16 [(0, .int x0), (1, .int x1)] [.int r16] h14
    refine a_if_eq (tgt := 23) C dX12_isErrand_16 (by decide) (fun c22 => ?_) (fun c22 => ?_)
    · have e := ip c22 e
      refine a_iconst (v := (0 : Int32)) C dX12_isErrand_23 (by decide) ?_
      obtain ⟨rfl, rfl⟩ := sp2 e
      exact a_widen (Nat.le_of_ble_eq_true rfl) (Nat.le_of_ble_eq_true rfl) (a_sub [0, 1] rfl jj12)
    · have e := iN c22 e
      refine a_iconst (v := (1 : Int32)) C dX12_isErrand_19 (by decide) ?_
      refine a_goto (tgt := 24) C dX12_isErrand_20 (by decide) ?_
      obtain ⟨rfl, rfl⟩ := sp2 e
      exact a_widen (Nat.le_of_ble_eq_true rfl) (Nat.le_of_ble_eq_true rfl) (a_sub [0, 1] rfl jj12)

set_option maxRecDepth 100000 in
def f_X12_rowFound_L49 {β : Type} (k : Int32 → Hp → Option (β)) (x0 : Nat) (x1 : Int32) (x2 : Int32) (x3 : Int32) : Nat → Hp → Int32 → Option (β)
  | 0, _, _ => none
  | fuel + 1, h, x4 => (if x3 ≤ x4 then k x4 h else bA (gN h x0 11 19) fun a25 => bA (gN h x0 11 4) fun a27 => bA (ald h a27 0 ((((40 : Int32) * x1) + x2) + x4)) fun v28 => bA (ast h a25 0 x4 v28) fun h30 => f_X12_rowFound_L49 k x0 x1 x2 x3 fuel h30 (x4 + (1 : Int32)))

set_option maxRecDepth 100000 in
def f_X12_rowFound (h : Hp) (x0 : Nat) (x1 : Int32) (x2 : Int32) (x3 : Int32) : Option (Int32 × Hp) := bA (gN h x0 11 2) fun a2 => bA (ald h a2 0 x1) fun v3 => (if 0 ≤ v3 then (if x2 < 0 then bA (isC h x0 11) fun u13 => b2 (f_X12_finding h x0 (2 : Int32)) fun r9 h7 => some (r9, h7) else bA (gN h x0 11 3) fun a17 => bA (ald h a17 0 x1) fun v18 => (if (lg_cmp (x2.toInt64 + x3.toInt64) v18.toInt64) ≤ 0 then bA (pV h x0 11 1 (.inl (0 : Int32))) fun h22 => f_X12_rowFound_L49 (fun y33 h32 => some ((0 : Int32), h32)) x0 x1 x2 x3 2000 h22 (0 : Int32) else bA (isC h x0 11) fun u40 => b2 (f_X12_finding h x0 (2 : Int32)) fun r36 h34 => some (r36, h34))) else bA (isC h x0 11) fun u49 => b2 (f_X12_finding h x0 (1 : Int32)) fun r45 h43 => some (r45, h43))

theorem m_X12_rowFound : MI yX12_rowFound cX12_rowFound 5 (some .int) 3 := ⟨co_X12_rowFound, ini_X12, by decide, by decide +kernel⟩
set_option maxRecDepth 100000 in
set_option maxHeartbeats 4000000 in
theorem w_X12_rowFound_L49 {G : Gm} {lo : Nat} {ce sl : Nat} (C : CX G lo cX12_rowFound RX12 (some .int) ({ frames := 1, cells := 0, slots := 0, locals := 21 } : Room) 5) {β : Type} {res : β} {k : Int32 → Hp → Option (β)} {x0 : Nat} {x1 : Int32} {x2 : Int32} {x3 : Int32} (hk : ∀ (h : Hp) (x4 : Int32), k x4 h = some res → AW G lo ce sl 82 [(0, .ref (lo + x0)), (1, .int x1), (2, .int x2), (3, .int x3), (4, .int x4)] [] h) (hce : ce ≤ 0) (hsl : sl ≤ 0) : ∀ (fuel : Nat) (h : Hp) (x4 : Int32), f_X12_rowFound_L49 k x0 x1 x2 x3 fuel h x4 = some res → AW G lo ce sl 49 [(0, .ref (lo + x0)), (1, .int x1), (2, .int x2), (3, .int x3), (4, .int x4)] [] h := by
  intro fuel
  induction fuel with
  | zero =>
    intro h x4 e
    cases (show (none : Option (β)) = some res from e)
  | succ fuel ih =>
    intro h x4 e
    rw [f_X12_rowFound_L49] at e
    refine a_iload C dX12_rowFound_49 4 rfl ?_
    refine a_iload_n C dX12_rowFound_51 rfl 3 rfl ?_
    refine a_icmp_ge (tgt := 82) C dX12_rowFound_52 (by decide) (fun c23 => ?_) (fun c23 => ?_)
    · have e := ip c23 e
      exact a_sub [0, 1, 2, 3, 4] rfl (hk _ _ e)
    · have e := iN c23 e
      refine a_aload_n C dX12_rowFound_55 rfl 0 rfl ?_
      obtain ⟨a25, e24, e⟩ := bA_some e
      refine a_getN C cb11 19 (by decide) fl_X12_34 rfl dX12_rowFound_56 e24 ?_
      refine a_iload C dX12_rowFound_59 4 rfl ?_
      refine a_aload_n C dX12_rowFound_61 rfl 0 rfl ?_
      obtain ⟨a27, e26, e⟩ := bA_some e
      refine a_getN C cb11 4 (by decide) fl_X12_16 rfl dX12_rowFound_62 e26 ?_
      refine a_bipush (v := (40 : Int32)) C dX12_rowFound_65 (by decide) ?_
      refine a_iload_n C dX12_rowFound_67 rfl 1 rfl ?_
      refine a_imul C dX12_rowFound_68 ?_
      refine a_iload_n C dX12_rowFound_69 rfl 2 rfl ?_
      refine a_iadd C dX12_rowFound_70 ?_
      refine a_iload C dX12_rowFound_71 4 rfl ?_
      refine a_iadd C dX12_rowFound_73 ?_
      obtain ⟨v28, e29, e⟩ := bA_some e
      refine a_iald C dX12_rowFound_74 e29 ?_
      obtain ⟨h30, e31, e⟩ := bA_some e
      refine a_iast C dX12_rowFound_75 e31 ?_
      refine a_iinc (v := x4 + (1 : Int32)) (lv2 := [(4, .int (x4 + (1 : Int32))), (0, .ref (lo + x0)), (1, .int x1), (2, .int x2), (3, .int x3)]) C dX12_rowFound_76 4 rfl rfl (by decide) rfl ?_
      refine a_goto (tgt := 49) C dX12_rowFound_79 (by decide) ?_
      exact a_sub [1, 2, 3, 4, 0] rfl (ih _ _ e)
set_option maxRecDepth 100000 in
set_option maxHeartbeats 4000000 in
theorem k_X12_rowFound {lo : Nat} {h : Hp} {x0 : Nat} {x1 : Int32} {x2 : Int32} {x3 : Int32} {r : Int32} {h' : Hp} (e : f_X12_rowFound h x0 x1 x2 x3 = some (r, h')) : ∀ l d, AC l d lo yX12_rowFound cX12_rowFound 5 (some .int) ({ frames := 1, cells := 0, slots := 0, locals := 21 } : Room) [.ref (lo + x0), .int x1, .int x2, .int x3] h (some (.int r)) h' := by
  intro l d
  refine AC_of (by decide) (Nat.le_of_ble_eq_true rfl) ?_
  intro G C _ _ q
  unfold f_X12_rowFound at e
  show AW G lo 0 0 0 [(0, .ref (lo + x0)), (1, .int x1), (2, .int x2), (3, .int x3)] [] h
  refine a_aload_n C dX12_rowFound_0 rfl 0 rfl ?_
  obtain ⟨a2, e1, e⟩ := bA_some e
  refine a_getN C cb11 2 (by decide) fl_X12_7 rfl dX12_rowFound_1 e1 ?_
  refine a_iload_n C dX12_rowFound_4 rfl 1 rfl ?_
  obtain ⟨v3, e4, e⟩ := bA_some e
  refine a_iald C dX12_rowFound_5 e4 ?_
  refine a_if_ge (tgt := 15) C dX12_rowFound_6 (by decide) (fun c5 => ?_) (fun c5 => ?_)
  · have e := ip c5 e
    refine a_iload_n C dX12_rowFound_15 rfl 2 rfl ?_
    refine a_if_lt (tgt := 35) C dX12_rowFound_16 (by decide) (fun c6 => ?_) (fun c6 => ?_)
    · have e := ip c6 e
      refine a_aload_n C dX12_rowFound_35 rfl 0 rfl ?_
      refine a_iconst (v := (2 : Int32)) C dX12_rowFound_36 (by decide) ?_
      obtain ⟨u13, ec12, e⟩ := bA_some e
      obtain ⟨fs11, eo10⟩ := isC_some ec12
      obtain ⟨r9, h7, e8, e⟩ := b2_some e
      refine a_callV (as := [.int (2 : Int32)]) (rest := []) C m_X12_finding im_X12_finding cb11 se_X12_X12_finding_X12_finding ml_X12_74 rfl (Nat.le_of_ble_eq_true rfl) (Nat.le_of_ble_eq_true rfl) (Nat.le_of_ble_eq_true rfl) (Nat.le_of_ble_eq_true rfl) (Nat.le_of_ble_eq_true rfl) dX12_rowFound_37 eo10 (k_X12_finding e8) rfl ?_
      show AW G lo 0 0 40 [(0, .ref (lo + x0)), (1, .int x1), (2, .int x2), (3, .int x3)] [.int r9] h7
      obtain ⟨rfl, rfl⟩ := sp2 e
      exact a_iret C q (Nat.le_of_ble_eq_true rfl) (Nat.le_of_ble_eq_true rfl) dX12_rowFound_40
    · have e := iN c6 e
      refine a_iload_n C dX12_rowFound_19 rfl 2 rfl ?_
      refine a_i2l C dX12_rowFound_20 ?_
      refine a_iload_n C dX12_rowFound_21 rfl 3 rfl ?_
      refine a_i2l C dX12_rowFound_22 ?_
      refine a_ladd C dX12_rowFound_23 ?_
      refine a_aload_n C dX12_rowFound_24 rfl 0 rfl ?_
      obtain ⟨a17, e16, e⟩ := bA_some e
      refine a_getN C cb11 3 (by decide) fl_X12_13 rfl dX12_rowFound_25 e16 ?_
      refine a_iload_n C dX12_rowFound_28 rfl 1 rfl ?_
      obtain ⟨v18, e19, e⟩ := bA_some e
      refine a_iald C dX12_rowFound_29 e19 ?_
      refine a_i2l C dX12_rowFound_30 ?_
      refine a_lcmp C dX12_rowFound_31 ?_
      refine a_if_le (tgt := 41) C dX12_rowFound_32 (by decide) (fun c20 => ?_) (fun c20 => ?_)
      · have e := ip c20 e
        refine a_aload_n C dX12_rowFound_41 rfl 0 rfl ?_
        refine a_iconst (v := (0 : Int32)) C dX12_rowFound_42 (by decide) ?_
        obtain ⟨h22, e21, e⟩ := bA_some e
        refine a_putI C cb11 1 (by decide) fl_X12_57 rfl (by decide +kernel) dX12_rowFound_43 e21 ?_
        refine a_iconst (v := (0 : Int32)) C dX12_rowFound_46 (by decide) ?_
        refine a_istore (lv2 := [(4, .int (0 : Int32)), (0, .ref (lo + x0)), (1, .int x1), (2, .int x2), (3, .int x3)]) C dX12_rowFound_47 (by decide) rfl ?_
        refine a_sub [1, 2, 3, 4, 0] rfl (w_X12_rowFound_L49 C ?_ (Nat.le_of_ble_eq_true rfl) (Nat.le_of_ble_eq_true rfl) 2000 _ _ e)
        intro h32 y33 e
        show AW G lo 0 0 82 [(0, .ref (lo + x0)), (1, .int x1), (2, .int x2), (3, .int x3), (4, .int y33)] [] h32
        refine a_iconst (v := (0 : Int32)) C dX12_rowFound_82 (by decide) ?_
        obtain ⟨rfl, rfl⟩ := sp2 e
        exact a_iret C q (Nat.le_of_ble_eq_true rfl) (Nat.le_of_ble_eq_true rfl) dX12_rowFound_83
      · have e := iN c20 e
        refine a_aload_n C dX12_rowFound_35 rfl 0 rfl ?_
        refine a_iconst (v := (2 : Int32)) C dX12_rowFound_36 (by decide) ?_
        obtain ⟨u40, ec39, e⟩ := bA_some e
        obtain ⟨fs38, eo37⟩ := isC_some ec39
        obtain ⟨r36, h34, e35, e⟩ := b2_some e
        refine a_callV (as := [.int (2 : Int32)]) (rest := []) C m_X12_finding im_X12_finding cb11 se_X12_X12_finding_X12_finding ml_X12_74 rfl (Nat.le_of_ble_eq_true rfl) (Nat.le_of_ble_eq_true rfl) (Nat.le_of_ble_eq_true rfl) (Nat.le_of_ble_eq_true rfl) (Nat.le_of_ble_eq_true rfl) dX12_rowFound_37 eo37 (k_X12_finding e35) rfl ?_
        show AW G lo 0 0 40 [(0, .ref (lo + x0)), (1, .int x1), (2, .int x2), (3, .int x3)] [.int r36] h34
        obtain ⟨rfl, rfl⟩ := sp2 e
        exact a_iret C q (Nat.le_of_ble_eq_true rfl) (Nat.le_of_ble_eq_true rfl) dX12_rowFound_40
  · have e := iN c5 e
    refine a_aload_n C dX12_rowFound_9 rfl 0 rfl ?_
    refine a_iconst (v := (1 : Int32)) C dX12_rowFound_10 (by decide) ?_
    obtain ⟨u49, ec48, e⟩ := bA_some e
    obtain ⟨fs47, eo46⟩ := isC_some ec48
    obtain ⟨r45, h43, e44, e⟩ := b2_some e
    refine a_callV (as := [.int (1 : Int32)]) (rest := []) C m_X12_finding im_X12_finding cb11 se_X12_X12_finding_X12_finding ml_X12_74 rfl (Nat.le_of_ble_eq_true rfl) (Nat.le_of_ble_eq_true rfl) (Nat.le_of_ble_eq_true rfl) (Nat.le_of_ble_eq_true rfl) (Nat.le_of_ble_eq_true rfl) dX12_rowFound_11 eo46 (k_X12_finding e44) rfl ?_
    show AW G lo 0 0 14 [(0, .ref (lo + x0)), (1, .int x1), (2, .int x2), (3, .int x3)] [.int r45] h43
    obtain ⟨rfl, rfl⟩ := sp2 e
    exact a_iret C q (Nat.le_of_ble_eq_true rfl) (Nat.le_of_ble_eq_true rfl) dX12_rowFound_14

set_option maxRecDepth 100000 in
def f_X12_errand_L66 {β : Type} (k : Int32 → Hp → Option (β)) (x0 : Nat) (x1 : Int32) (x2 : Int32) (x3 : Int32) (x4 : Int32) (x5 : Int32) : Nat → Hp → Int32 → Option (β)
  | 0, _, _ => none
  | fuel + 1, h, x6 => bA (gI h x0 11 21) fun g55 => (if g55 ≤ x6 then k x6 h else bA (gN h x0 11 20) fun a58 => bA (ald h a58 0 x6) fun v59 => bA (isC h x0 11) fun u67 => bA (f_X12_writes h x0 ((100 : Int32) + v59)) fun h61 => f_X12_errand_L66 k x0 x1 x2 x3 x4 x5 fuel h61 (x6 + (1 : Int32)))

set_option maxRecDepth 100000 in
def f_X12_errand_L133 {β : Type} (k : Int32 → Hp → Option (β)) (x0 : Nat) (x1 : Int32) (x2 : Int32) (x3 : Int32) (x4 : Int32) (x5 : Int32) : Nat → Hp → Int32 → Option (β)
  | 0, _, _ => none
  | fuel + 1, h, x6 => (if x6 < 0 then k x6 h else bA (gN h x0 11 20) fun a95 => bA (ald h a95 0 x6) fun v96 => bA (isC h x0 11) fun u104 => bA (f_X12_writes h x0 ((200 : Int32) + v96)) fun h98 => f_X12_errand_L133 k x0 x1 x2 x3 x4 x5 fuel h98 (x6 + (-1 : Int32)))

set_option maxRecDepth 100000 in
def f_X12_errand (h : Hp) (x0 : Nat) (x1 : Int32) (x2 : Int32) (x3 : Int32) : Option (Int32 × Hp) := bA (pV h x0 11 0 (.inl (0 : Int32))) fun h2 => bA (isC h2 x0 11) fun u9 => b2 (f_X12_isThere h2 x0 ) fun r5 h3 => (if r5 = 0 then some ((-1000002 : Int32), h3) else b2 (f_X12_isErrand h3 x1 x3) fun r15 h13 => (if r15 = 0 then some ((-1000001 : Int32), h13) else bA (isC h13 x0 11) fun u28 => b2 (f_X12_rowFound h13 x0 x1 x2 x3) fun r24 h22 => (if r24 = 0 then bA (isC h22 x0 11) fun u38 => bA (f_X12_keep h22 x0 ) fun h32 => bA (gN h32 x0 11 5) fun a42 => bA (isC h32 x0 11) fun u49 => b2 (f_X12_goOut h32 x0 a42 x3) fun r45 h43 => bA (pV h43 x0 11 27 (.inl (0 : Int32))) fun h53 => f_X12_errand_L66 (fun y71 h70 => bA (gI h70 x0 11 25) fun g73 => bA (if g73 = 0 then bA (gI h70 x0 11 24) fun g81 => some ((300 : Int32) + g81) else bA (gI h70 x0 11 25) fun g79 => some ((400 : Int32) + g79)) fun j75 => bA (isC h70 x0 11) fun u88 => bA (f_X12_writes h70 x0 j75) fun h82 => bA (gI h82 x0 11 21) fun g92 => f_X12_errand_L133 (fun y108 h107 => bA (gI h107 x0 11 25) fun g110 => b2 (if g110 = 0 then some (r45, h107) else bA (gI h107 x0 11 25) fun g117 => bA (isC h107 x0 11) fun u124 => b2 (f_X12_finding h107 x0 g117) fun r120 h118 => some (r120, h118)) fun j112 h113 => some (j112, h113)) x0 x1 x2 x3 r24 r45 2000 h82 (g92 - (1 : Int32))) x0 x1 x2 x3 r24 r45 2000 h53 (0 : Int32) else some (r24, h22))))

theorem m_X12_errand : MI yX12_errand cX12_errand 7 (some .int) 3 := ⟨co_X12_errand, ini_X12, by decide, by decide +kernel⟩
set_option maxRecDepth 100000 in
set_option maxHeartbeats 4000000 in
theorem w_X12_errand_L66 {G : Gm} {lo : Nat} {ce sl : Nat} (C : CX G lo cX12_errand RX12 (some .int) ({ frames := 6, cells := 0, slots := 0, locals := 137 } : Room) 7) {β : Type} {res : β} {k : Int32 → Hp → Option (β)} {x0 : Nat} {x1 : Int32} {x2 : Int32} {x3 : Int32} {x4 : Int32} {x5 : Int32} (hk : ∀ (h : Hp) (x6 : Int32), k x6 h = some res → AW G lo ce sl 95 [(0, .ref (lo + x0)), (1, .int x1), (2, .int x2), (3, .int x3), (4, .int x4), (5, .int x5), (6, .int x6)] [] h) (hce : ce ≤ 0) (hsl : sl ≤ 0) : ∀ (fuel : Nat) (h : Hp) (x6 : Int32), f_X12_errand_L66 k x0 x1 x2 x3 x4 x5 fuel h x6 = some res → AW G lo ce sl 66 [(0, .ref (lo + x0)), (1, .int x1), (2, .int x2), (3, .int x3), (4, .int x4), (5, .int x5), (6, .int x6)] [] h := by
  intro fuel
  induction fuel with
  | zero =>
    intro h x6 e
    cases (show (none : Option (β)) = some res from e)
  | succ fuel ih =>
    intro h x6 e
    rw [f_X12_errand_L66] at e
    refine a_iload C dX12_errand_66 6 rfl ?_
    refine a_aload_n C dX12_errand_68 rfl 0 rfl ?_
    obtain ⟨g55, e54, e⟩ := bA_some e
    refine a_getI C cb11 21 (by decide) fl_X12_171 rfl dX12_errand_69 e54 ?_
    refine a_icmp_ge (tgt := 95) C dX12_errand_72 (by decide) (fun c56 => ?_) (fun c56 => ?_)
    · have e := ip c56 e
      exact a_sub [0, 1, 2, 3, 4, 5, 6] rfl (hk _ _ e)
    · have e := iN c56 e
      refine a_aload_n C dX12_errand_75 rfl 0 rfl ?_
      refine a_bipush (v := (100 : Int32)) C dX12_errand_76 (by decide) ?_
      refine a_aload_n C dX12_errand_78 rfl 0 rfl ?_
      obtain ⟨a58, e57, e⟩ := bA_some e
      refine a_getN C cb11 20 (by decide) fl_X12_37 rfl dX12_errand_79 e57 ?_
      refine a_iload C dX12_errand_82 6 rfl ?_
      obtain ⟨v59, e60, e⟩ := bA_some e
      refine a_iald C dX12_errand_84 e60 ?_
      refine a_iadd C dX12_errand_85 ?_
      obtain ⟨u67, ec66, e⟩ := bA_some e
      obtain ⟨fs65, eo64⟩ := isC_some ec66
      obtain ⟨h61, e62, e⟩ := bA_some e
      refine a_callV (as := [.int ((100 : Int32) + v59)]) (rest := []) C m_X12_writes im_X12_writes cb11 se_X12_X12_writes_X12_writes ml_X12_233 rfl (Nat.le_of_ble_eq_true rfl) (Nat.le_of_ble_eq_true rfl) (by exact hce) (by exact hsl) (Nat.le_of_ble_eq_true rfl) dX12_errand_86 eo64 (k_X12_writes e62) rfl ?_
      show AW G lo ce sl 89 [(0, .ref (lo + x0)), (1, .int x1), (2, .int x2), (3, .int x3), (4, .int x4), (5, .int x5), (6, .int x6)] [] h61
      refine a_iinc (v := x6 + (1 : Int32)) (lv2 := [(6, .int (x6 + (1 : Int32))), (0, .ref (lo + x0)), (1, .int x1), (2, .int x2), (3, .int x3), (4, .int x4), (5, .int x5)]) C dX12_errand_89 6 rfl rfl (by decide) rfl ?_
      refine a_goto (tgt := 66) C dX12_errand_92 (by decide) ?_
      exact a_sub [1, 2, 3, 4, 5, 6, 0] rfl (ih _ _ e)
set_option maxRecDepth 100000 in
set_option maxHeartbeats 4000000 in
theorem w_X12_errand_L133 {G : Gm} {lo : Nat} {ce sl : Nat} (C : CX G lo cX12_errand RX12 (some .int) ({ frames := 6, cells := 0, slots := 0, locals := 137 } : Room) 7) {β : Type} {res : β} {k : Int32 → Hp → Option (β)} {x0 : Nat} {x1 : Int32} {x2 : Int32} {x3 : Int32} {x4 : Int32} {x5 : Int32} (hk : ∀ (h : Hp) (x6 : Int32), k x6 h = some res → AW G lo ce sl 159 [(0, .ref (lo + x0)), (1, .int x1), (2, .int x2), (3, .int x3), (4, .int x4), (5, .int x5), (6, .int x6)] [] h) (hce : ce ≤ 0) (hsl : sl ≤ 0) : ∀ (fuel : Nat) (h : Hp) (x6 : Int32), f_X12_errand_L133 k x0 x1 x2 x3 x4 x5 fuel h x6 = some res → AW G lo ce sl 133 [(0, .ref (lo + x0)), (1, .int x1), (2, .int x2), (3, .int x3), (4, .int x4), (5, .int x5), (6, .int x6)] [] h := by
  intro fuel
  induction fuel with
  | zero =>
    intro h x6 e
    cases (show (none : Option (β)) = some res from e)
  | succ fuel ih =>
    intro h x6 e
    rw [f_X12_errand_L133] at e
    refine a_iload C dX12_errand_133 6 rfl ?_
    refine a_if_lt (tgt := 159) C dX12_errand_135 (by decide) (fun c93 => ?_) (fun c93 => ?_)
    · have e := ip c93 e
      exact a_sub [0, 1, 2, 3, 4, 5, 6] rfl (hk _ _ e)
    · have e := iN c93 e
      refine a_aload_n C dX12_errand_138 rfl 0 rfl ?_
      refine a_sipush (v := (200 : Int32)) C dX12_errand_139 (by decide) ?_
      refine a_aload_n C dX12_errand_142 rfl 0 rfl ?_
      obtain ⟨a95, e94, e⟩ := bA_some e
      refine a_getN C cb11 20 (by decide) fl_X12_37 rfl dX12_errand_143 e94 ?_
      refine a_iload C dX12_errand_146 6 rfl ?_
      obtain ⟨v96, e97, e⟩ := bA_some e
      refine a_iald C dX12_errand_148 e97 ?_
      refine a_iadd C dX12_errand_149 ?_
      obtain ⟨u104, ec103, e⟩ := bA_some e
      obtain ⟨fs102, eo101⟩ := isC_some ec103
      obtain ⟨h98, e99, e⟩ := bA_some e
      refine a_callV (as := [.int ((200 : Int32) + v96)]) (rest := []) C m_X12_writes im_X12_writes cb11 se_X12_X12_writes_X12_writes ml_X12_233 rfl (Nat.le_of_ble_eq_true rfl) (Nat.le_of_ble_eq_true rfl) (by exact hce) (by exact hsl) (Nat.le_of_ble_eq_true rfl) dX12_errand_150 eo101 (k_X12_writes e99) rfl ?_
      show AW G lo ce sl 153 [(0, .ref (lo + x0)), (1, .int x1), (2, .int x2), (3, .int x3), (4, .int x4), (5, .int x5), (6, .int x6)] [] h98
      refine a_iinc (v := x6 + (-1 : Int32)) (lv2 := [(6, .int (x6 + (-1 : Int32))), (0, .ref (lo + x0)), (1, .int x1), (2, .int x2), (3, .int x3), (4, .int x4), (5, .int x5)]) C dX12_errand_153 6 rfl rfl (by decide) rfl ?_
      refine a_goto (tgt := 133) C dX12_errand_156 (by decide) ?_
      exact a_sub [1, 2, 3, 4, 5, 6, 0] rfl (ih _ _ e)
set_option maxRecDepth 100000 in
set_option maxHeartbeats 4000000 in
theorem k_X12_errand {lo : Nat} {h : Hp} {x0 : Nat} {x1 : Int32} {x2 : Int32} {x3 : Int32} {r : Int32} {h' : Hp} (e : f_X12_errand h x0 x1 x2 x3 = some (r, h')) : ∀ l d, AC l d lo yX12_errand cX12_errand 7 (some .int) ({ frames := 6, cells := 0, slots := 0, locals := 137 } : Room) [.ref (lo + x0), .int x1, .int x2, .int x3] h (some (.int r)) h' := by
  intro l d
  refine AC_of (by decide) (Nat.le_of_ble_eq_true rfl) ?_
  intro G C _ _ q
  unfold f_X12_errand at e
  show AW G lo 0 0 0 [(0, .ref (lo + x0)), (1, .int x1), (2, .int x2), (3, .int x3)] [] h
  refine a_aload_n C dX12_errand_0 rfl 0 rfl ?_
  refine a_iconst (v := (0 : Int32)) C dX12_errand_1 (by decide) ?_
  obtain ⟨h2, e1, e⟩ := bA_some e
  refine a_putI C cb11 0 (by decide) fl_X12_53 rfl (by decide +kernel) dX12_errand_2 e1 ?_
  refine a_aload_n C dX12_errand_5 rfl 0 rfl ?_
  obtain ⟨u9, ec8, e⟩ := bA_some e
  obtain ⟨fs7, eo6⟩ := isC_some ec8
  obtain ⟨r5, h3, e4, e⟩ := b2_some e
  refine a_callV (as := []) (rest := []) C m_X12_isThere im_X12_isThere cb11 se_X12_X12_isThere_X12_isThere ml_X12_216 rfl (Nat.le_of_ble_eq_true rfl) (Nat.le_of_ble_eq_true rfl) (Nat.le_of_ble_eq_true rfl) (Nat.le_of_ble_eq_true rfl) (Nat.le_of_ble_eq_true rfl) dX12_errand_6 eo6 (k_X12_isThere e4) rfl ?_
  show AW G lo 0 0 9 [(0, .ref (lo + x0)), (1, .int x1), (2, .int x2), (3, .int x3)] [.int r5] h3
  refine a_if_ne (tgt := 15) C dX12_errand_9 (by decide) (fun c12 => ?_) (fun c12 => ?_)
  · have e := iN c12 e
    refine a_iload_n C dX12_errand_15 rfl 1 rfl ?_
    refine a_iload_n C dX12_errand_16 rfl 3 rfl ?_
    obtain ⟨r15, h13, e14, e⟩ := b2_some e
    refine a_callS (as := [.int x1, .int x3]) (rest := []) C m_X12_isErrand sm_X12_isErrand ml_X12_220 rfl (Nat.le_of_ble_eq_true rfl) (Nat.le_of_ble_eq_true rfl) (Nat.le_of_ble_eq_true rfl) (Nat.le_of_ble_eq_true rfl) (Nat.le_of_ble_eq_true rfl) dX12_errand_17 (k_X12_isErrand e14) rfl ?_
    show AW G lo 0 0 20 [(0, .ref (lo + x0)), (1, .int x1), (2, .int x2), (3, .int x3)] [.int r15] h13
    refine a_if_ne (tgt := 26) C dX12_errand_20 (by decide) (fun c21 => ?_) (fun c21 => ?_)
    · have e := iN c21 e
      refine a_aload_n C dX12_errand_26 rfl 0 rfl ?_
      refine a_iload_n C dX12_errand_27 rfl 1 rfl ?_
      refine a_iload_n C dX12_errand_28 rfl 2 rfl ?_
      refine a_iload_n C dX12_errand_29 rfl 3 rfl ?_
      obtain ⟨u28, ec27, e⟩ := bA_some e
      obtain ⟨fs26, eo25⟩ := isC_some ec27
      obtain ⟨r24, h22, e23, e⟩ := b2_some e
      refine a_callV (as := [.int x1, .int x2, .int x3]) (rest := []) C m_X12_rowFound im_X12_rowFound cb11 se_X12_X12_rowFound_X12_rowFound ml_X12_223 rfl (Nat.le_of_ble_eq_true rfl) (Nat.le_of_ble_eq_true rfl) (Nat.le_of_ble_eq_true rfl) (Nat.le_of_ble_eq_true rfl) (Nat.le_of_ble_eq_true rfl) dX12_errand_30 eo25 (k_X12_rowFound e23) rfl ?_
      show AW G lo 0 0 33 [(0, .ref (lo + x0)), (1, .int x1), (2, .int x2), (3, .int x3)] [.int r24] h22
      refine a_istore (lv2 := [(4, .int r24), (0, .ref (lo + x0)), (1, .int x1), (2, .int x2), (3, .int x3)]) C dX12_errand_33 (by decide) rfl ?_
      refine a_iload C dX12_errand_35 0 rfl ?_
      refine a_if_eq (tgt := 43) C dX12_errand_37 (by decide) (fun c31 => ?_) (fun c31 => ?_)
      · have e := ip c31 e
        refine a_aload_n C dX12_errand_43 rfl 1 rfl ?_
        obtain ⟨u38, ec37, e⟩ := bA_some e
        obtain ⟨fs36, eo35⟩ := isC_some ec37
        obtain ⟨h32, e33, e⟩ := bA_some e
        refine a_callV (as := []) (rest := []) C m_X12_keep im_X12_keep cb11 se_X12_X12_keep_X12_keep ml_X12_227 rfl (Nat.le_of_ble_eq_true rfl) (Nat.le_of_ble_eq_true rfl) (Nat.le_of_ble_eq_true rfl) (Nat.le_of_ble_eq_true rfl) (Nat.le_of_ble_eq_true rfl) dX12_errand_44 eo35 (k_X12_keep e33) rfl ?_
        show AW G lo 0 0 47 [(4, .int r24), (0, .ref (lo + x0)), (1, .int x1), (2, .int x2), (3, .int x3)] [] h32
        refine a_aload_n C dX12_errand_47 rfl 1 rfl ?_
        refine a_aload_n C dX12_errand_48 rfl 1 rfl ?_
        obtain ⟨a42, e41, e⟩ := bA_some e
        refine a_getN C cb11 5 (by decide) fl_X12_19 rfl dX12_errand_49 e41 ?_
        refine a_iload_n C dX12_errand_52 rfl 4 rfl ?_
        obtain ⟨u49, ec48, e⟩ := bA_some e
        obtain ⟨fs47, eo46⟩ := isC_some ec48
        obtain ⟨r45, h43, e44, e⟩ := b2_some e
        refine a_callV (as := [.ref (lo + a42), .int x3]) (rest := []) C m_X12_goOut im_X12_goOut cb11 se_X12_X12_goOut_X12_goOut ml_X12_230 rfl (Nat.le_of_ble_eq_true rfl) (Nat.le_of_ble_eq_true rfl) (Nat.le_of_ble_eq_true rfl) (Nat.le_of_ble_eq_true rfl) (Nat.le_of_ble_eq_true rfl) dX12_errand_53 eo46 (k_X12_goOut e44) rfl ?_
        show AW G lo 0 0 56 [(4, .int r24), (0, .ref (lo + x0)), (1, .int x1), (2, .int x2), (3, .int x3)] [.int r45] h43
        refine a_istore (lv2 := [(5, .int r45), (4, .int r24), (0, .ref (lo + x0)), (1, .int x1), (2, .int x2), (3, .int x3)]) C dX12_errand_56 (by decide) rfl ?_
        refine a_aload_n C dX12_errand_58 rfl 2 rfl ?_
        refine a_iconst (v := (0 : Int32)) C dX12_errand_59 (by decide) ?_
        obtain ⟨h53, e52, e⟩ := bA_some e
        refine a_putI C cb11 27 (by decide) fl_X12_164 rfl (by decide +kernel) dX12_errand_60 e52 ?_
        refine a_iconst (v := (0 : Int32)) C dX12_errand_63 (by decide) ?_
        refine a_istore (lv2 := [(6, .int (0 : Int32)), (5, .int r45), (4, .int r24), (0, .ref (lo + x0)), (1, .int x1), (2, .int x2), (3, .int x3)]) C dX12_errand_64 (by decide) rfl ?_
        refine a_sub [3, 4, 5, 6, 2, 1, 0] rfl (w_X12_errand_L66 C ?_ (Nat.le_of_ble_eq_true rfl) (Nat.le_of_ble_eq_true rfl) 2000 _ _ e)
        intro h70 y71 e
        show AW G lo 0 0 95 [(0, .ref (lo + x0)), (1, .int x1), (2, .int x2), (3, .int x3), (4, .int r24), (5, .int r45), (6, .int y71)] [] h70
        refine a_aload_n C dX12_errand_95 rfl 0 rfl ?_
        refine a_aload_n C dX12_errand_96 rfl 0 rfl ?_
        obtain ⟨g73, e72, e⟩ := bA_some e
        refine a_getI C cb11 25 (by decide) fl_X12_208 rfl dX12_errand_97 e72 ?_
        obtain ⟨j75, eb77, e⟩ := bA_some e
        have jj76 : AW G lo 0 0 122 [(0, .ref (lo + x0)), (1, .int x1), (2, .int x2), (3, .int x3), (4, .int r24), (5, .int r45), (6, .int y71)] [.int j75, .ref (lo + x0)] h70 := by
          obtain ⟨u88, ec87, e⟩ := bA_some e
          obtain ⟨fs86, eo85⟩ := isC_some ec87
          obtain ⟨h82, e83, e⟩ := bA_some e
          refine a_callV (as := [.int j75]) (rest := []) C m_X12_writes im_X12_writes cb11 se_X12_X12_writes_X12_writes ml_X12_233 rfl (Nat.le_of_ble_eq_true rfl) (Nat.le_of_ble_eq_true rfl) (Nat.le_of_ble_eq_true rfl) (Nat.le_of_ble_eq_true rfl) (Nat.le_of_ble_eq_true rfl) dX12_errand_122 eo85 (k_X12_writes e83) rfl ?_
          show AW G lo 0 0 125 [(0, .ref (lo + x0)), (1, .int x1), (2, .int x2), (3, .int x3), (4, .int r24), (5, .int r45), (6, .int y71)] [] h82
          refine a_aload_n C dX12_errand_125 rfl 0 rfl ?_
          obtain ⟨g92, e91, e⟩ := bA_some e
          refine a_getI C cb11 21 (by decide) fl_X12_171 rfl dX12_errand_126 e91 ?_
          refine a_iconst (v := (1 : Int32)) C dX12_errand_129 (by decide) ?_
          refine a_isub C dX12_errand_130 ?_
          refine a_istore (lv2 := [(6, .int (g92 - (1 : Int32))), (0, .ref (lo + x0)), (1, .int x1), (2, .int x2), (3, .int x3), (4, .int r24), (5, .int r45)]) C dX12_errand_131 (by decide) rfl ?_
          refine a_sub [1, 2, 3, 4, 5, 6, 0] rfl (w_X12_errand_L133 C ?_ (Nat.le_of_ble_eq_true rfl) (Nat.le_of_ble_eq_true rfl) 2000 _ _ e)
          intro h107 y108 e
          show AW G lo 0 0 159 [(0, .ref (lo + x0)), (1, .int x1), (2, .int x2), (3, .int x3), (4, .int r24), (5, .int r45), (6, .int y108)] [] h107
          refine a_aload_n C dX12_errand_159 rfl 0 rfl ?_
          obtain ⟨g110, e109, e⟩ := bA_some e
          refine a_getI C cb11 25 (by decide) fl_X12_208 rfl dX12_errand_160 e109 ?_
          obtain ⟨j112, h113, eb115, e⟩ := b2_some e
          have jj114 : AW G lo 0 0 179 [(0, .ref (lo + x0)), (1, .int x1), (2, .int x2), (3, .int x3), (4, .int r24), (5, .int r45), (6, .int y108)] [.int j112] h113 := by
            obtain ⟨rfl, rfl⟩ := sp2 e
            exact a_iret C q (Nat.le_of_ble_eq_true rfl) (Nat.le_of_ble_eq_true rfl) dX12_errand_179
          have e := eb115
          refine a_if_ne (tgt := 171) C dX12_errand_163 (by decide) (fun c111 => ?_) (fun c111 => ?_)
          · have e := iN c111 e
            refine a_aload_n C dX12_errand_171 rfl 0 rfl ?_
            refine a_aload_n C dX12_errand_172 rfl 0 rfl ?_
            obtain ⟨g117, e116, e⟩ := bA_some e
            refine a_getI C cb11 25 (by decide) fl_X12_208 rfl dX12_errand_173 e116 ?_
            obtain ⟨u124, ec123, e⟩ := bA_some e
            obtain ⟨fs122, eo121⟩ := isC_some ec123
            obtain ⟨r120, h118, e119, e⟩ := b2_some e
            refine a_callV (as := [.int g117]) (rest := []) C m_X12_finding im_X12_finding cb11 se_X12_X12_finding_X12_finding ml_X12_74 rfl (Nat.le_of_ble_eq_true rfl) (Nat.le_of_ble_eq_true rfl) (Nat.le_of_ble_eq_true rfl) (Nat.le_of_ble_eq_true rfl) (Nat.le_of_ble_eq_true rfl) dX12_errand_176 eo121 (k_X12_finding e119) rfl ?_
            show AW G lo 0 0 179 [(0, .ref (lo + x0)), (1, .int x1), (2, .int x2), (3, .int x3), (4, .int r24), (5, .int r45), (6, .int y108)] [.int r120] h118
            obtain ⟨rfl, rfl⟩ := sp2 e
            exact a_widen (Nat.le_of_ble_eq_true rfl) (Nat.le_of_ble_eq_true rfl) (a_sub [0, 1, 2, 3, 4, 5, 6] rfl jj114)
          · have e := ip c111 e
            refine a_iload C dX12_errand_166 5 rfl ?_
            refine a_goto (tgt := 179) C dX12_errand_168 (by decide) ?_
            obtain ⟨rfl, rfl⟩ := sp2 e
            exact a_widen (Nat.le_of_ble_eq_true rfl) (Nat.le_of_ble_eq_true rfl) (a_sub [0, 1, 2, 3, 4, 5, 6] rfl jj114)
        have e := eb77
        refine a_if_ne (tgt := 114) C dX12_errand_100 (by decide) (fun c74 => ?_) (fun c74 => ?_)
        · have e := iN c74 e
          refine a_sipush (v := (400 : Int32)) C dX12_errand_114 (by decide) ?_
          refine a_aload_n C dX12_errand_117 rfl 0 rfl ?_
          obtain ⟨g79, e78, e⟩ := bA_some e
          refine a_getI C cb11 25 (by decide) fl_X12_208 rfl dX12_errand_118 e78 ?_
          refine a_iadd C dX12_errand_121 ?_
          obtain rfl := sp1 e
          exact a_widen (Nat.le_of_ble_eq_true rfl) (Nat.le_of_ble_eq_true rfl) (a_sub [0, 1, 2, 3, 4, 5, 6] rfl jj76)
        · have e := ip c74 e
          refine a_sipush (v := (300 : Int32)) C dX12_errand_103 (by decide) ?_
          refine a_aload_n C dX12_errand_106 rfl 0 rfl ?_
          obtain ⟨g81, e80, e⟩ := bA_some e
          refine a_getI C cb11 24 (by decide) fl_X12_199 rfl dX12_errand_107 e80 ?_
          refine a_iadd C dX12_errand_110 ?_
          refine a_goto (tgt := 122) C dX12_errand_111 (by decide) ?_
          obtain rfl := sp1 e
          exact a_widen (Nat.le_of_ble_eq_true rfl) (Nat.le_of_ble_eq_true rfl) (a_sub [0, 1, 2, 3, 4, 5, 6] rfl jj76)
      · have e := iN c31 e
        refine a_iload C dX12_errand_40 0 rfl ?_
        obtain ⟨rfl, rfl⟩ := sp2 e
        exact a_iret C q (Nat.le_of_ble_eq_true rfl) (Nat.le_of_ble_eq_true rfl) dX12_errand_42
    · have e := ip c21 e
      refine a_ldc C ko_X12_73 dX12_errand_23 ?_
      obtain ⟨rfl, rfl⟩ := sp2 e
      exact a_iret C q (Nat.le_of_ble_eq_true rfl) (Nat.le_of_ble_eq_true rfl) dX12_errand_25
  · have e := ip c12 e
    refine a_ldc C ko_X12_219 dX12_errand_12 ?_
    obtain ⟨rfl, rfl⟩ := sp2 e
    exact a_iret C q (Nat.le_of_ble_eq_true rfl) (Nat.le_of_ble_eq_true rfl) dX12_errand_14

set_option maxRecDepth 100000 in
def f_X12_ledger (h : Hp) (x0 : Nat) (x1 : Int32) : Option (Int32 × Hp) := bA (pV h x0 11 0 (.inl (0 : Int32))) fun h2 => bA (gI h2 x0 11 27) fun g4 => b2 (f_X12_in h2 x1.toInt64 (0 : Int64) ((g4 - (1 : Int32)).toInt64)) fun r7 h5 => bA (if r7 = 0 then some (-1000000 : Int32) else bA (gN h5 x0 11 26) fun a18 => bA (ald h5 a18 0 x1) fun v19 => some v19) fun j14 => some (j14, h5)

theorem m_X12_ledger : MI yX12_ledger cX12_ledger 2 (some .int) 1 := ⟨co_X12_ledger, ini_X12, by decide, by decide +kernel⟩
set_option maxRecDepth 100000 in
set_option maxHeartbeats 4000000 in
theorem k_X12_ledger {lo : Nat} {h : Hp} {x0 : Nat} {x1 : Int32} {r : Int32} {h' : Hp} (e : f_X12_ledger h x0 x1 = some (r, h')) : ∀ l d, AC l d lo yX12_ledger cX12_ledger 2 (some .int) ({ frames := 1, cells := 0, slots := 0, locals := 25 } : Room) [.ref (lo + x0), .int x1] h (some (.int r)) h' := by
  intro l d
  refine AC_of (by decide) (Nat.le_of_ble_eq_true rfl) ?_
  intro G C _ _ q
  unfold f_X12_ledger at e
  show AW G lo 0 0 0 [(0, .ref (lo + x0)), (1, .int x1)] [] h
  refine a_aload_n C dX12_ledger_0 rfl 0 rfl ?_
  refine a_iconst (v := (0 : Int32)) C dX12_ledger_1 (by decide) ?_
  obtain ⟨h2, e1, e⟩ := bA_some e
  refine a_putI C cb11 0 (by decide) fl_X12_53 rfl (by decide +kernel) dX12_ledger_2 e1 ?_
  refine a_iload_n C dX12_ledger_5 rfl 1 rfl ?_
  refine a_i2l C dX12_ledger_6 ?_
  refine a_lconst (v := (0 : Int64)) C dX12_ledger_7 (by decide) ?_
  refine a_aload_n C dX12_ledger_8 rfl 0 rfl ?_
  obtain ⟨g4, e3, e⟩ := bA_some e
  refine a_getI C cb11 27 (by decide) fl_X12_164 rfl dX12_ledger_9 e3 ?_
  refine a_iconst (v := (1 : Int32)) C dX12_ledger_12 (by decide) ?_
  refine a_isub C dX12_ledger_13 ?_
  refine a_i2l C dX12_ledger_14 ?_
  obtain ⟨r7, h5, e6, e⟩ := b2_some e
  refine a_callS (as := [.long x1.toInt64, .long (0 : Int64), .long ((g4 - (1 : Int32)).toInt64)]) (rest := []) C m_X12_in sm_X12_in ml_X12_63 rfl (Nat.le_of_ble_eq_true rfl) (Nat.le_of_ble_eq_true rfl) (Nat.le_of_ble_eq_true rfl) (Nat.le_of_ble_eq_true rfl) (Nat.le_of_ble_eq_true rfl) dX12_ledger_15 (k_X12_in e6) rfl ?_
  show AW G lo 0 0 18 [(0, .ref (lo + x0)), (1, .int x1)] [.int r7] h5
  obtain ⟨j14, eb16, e⟩ := bA_some e
  have jj15 : AW G lo 0 0 32 [(0, .ref (lo + x0)), (1, .int x1)] [.int j14] h5 := by
    obtain ⟨rfl, rfl⟩ := sp2 e
    exact a_iret C q (Nat.le_of_ble_eq_true rfl) (Nat.le_of_ble_eq_true rfl) dX12_ledger_32
  have e := eb16
  refine a_if_eq (tgt := 30) C dX12_ledger_18 (by decide) (fun c13 => ?_) (fun c13 => ?_)
  · have e := ip c13 e
    refine a_ldc C ko_X12_96 dX12_ledger_30 ?_
    obtain rfl := sp1 e
    exact a_widen (Nat.le_of_ble_eq_true rfl) (Nat.le_of_ble_eq_true rfl) (a_sub [0, 1] rfl jj15)
  · have e := iN c13 e
    refine a_aload_n C dX12_ledger_21 rfl 0 rfl ?_
    obtain ⟨a18, e17, e⟩ := bA_some e
    refine a_getN C cb11 26 (by decide) fl_X12_40 rfl dX12_ledger_22 e17 ?_
    refine a_iload_n C dX12_ledger_25 rfl 1 rfl ?_
    obtain ⟨v19, e20, e⟩ := bA_some e
    refine a_iald C dX12_ledger_26 e20 ?_
    refine a_goto (tgt := 32) C dX12_ledger_27 (by decide) ?_
    obtain rfl := sp1 e
    exact a_widen (Nat.le_of_ble_eq_true rfl) (Nat.le_of_ble_eq_true rfl) (a_sub [0, 1] rfl jj15)

set_option maxRecDepth 100000 in
def f_X12_oil (h : Hp) (x0 : Nat) (x1 : Int32) : Option (Int32 × Hp) := bA (pV h x0 11 0 (.inl (0 : Int32))) fun h2 => bA (isC h2 x0 11) fun u9 => b2 (f_X12_isDoor h2 x0 x1) fun r5 h3 => (if r5 = 0 then some ((-1000001 : Int32), h3) else bA (gN h3 x0 11 5) fun a14 => b2 (f_X12_of h3 a14 x1 (4 : Int32)) fun r17 h15 => (if r17 = 0 then some ((-1000002 : Int32), h15) else bA (isC h15 x0 11) fun u30 => bA (f_X12_keep h15 x0 ) fun h24 => bA (gN h24 x0 11 5) fun a34 => bA (f_X12_be h24 a34 x1 (4 : Int32) (0 : Int32)) fun h35 => some (r17, h35)))

theorem m_X12_oil : MI yX12_oil cX12_oil 3 (some .int) 1 := ⟨co_X12_oil, ini_X12, by decide, by decide +kernel⟩
set_option maxRecDepth 100000 in
set_option maxHeartbeats 4000000 in
theorem k_X12_oil {lo : Nat} {h : Hp} {x0 : Nat} {x1 : Int32} {r : Int32} {h' : Hp} (e : f_X12_oil h x0 x1 = some (r, h')) : ∀ l d, AC l d lo yX12_oil cX12_oil 3 (some .int) ({ frames := 2, cells := 0, slots := 0, locals := 46 } : Room) [.ref (lo + x0), .int x1] h (some (.int r)) h' := by
  intro l d
  refine AC_of (by decide) (Nat.le_of_ble_eq_true rfl) ?_
  intro G C _ _ q
  unfold f_X12_oil at e
  show AW G lo 0 0 0 [(0, .ref (lo + x0)), (1, .int x1)] [] h
  refine a_aload_n C dX12_oil_0 rfl 0 rfl ?_
  refine a_iconst (v := (0 : Int32)) C dX12_oil_1 (by decide) ?_
  obtain ⟨h2, e1, e⟩ := bA_some e
  refine a_putI C cb11 0 (by decide) fl_X12_53 rfl (by decide +kernel) dX12_oil_2 e1 ?_
  refine a_aload_n C dX12_oil_5 rfl 0 rfl ?_
  refine a_iload_n C dX12_oil_6 rfl 1 rfl ?_
  obtain ⟨u9, ec8, e⟩ := bA_some e
  obtain ⟨fs7, eo6⟩ := isC_some ec8
  obtain ⟨r5, h3, e4, e⟩ := b2_some e
  refine a_callV (as := [.int x1]) (rest := []) C m_X12_isDoor im_X12_isDoor cb11 se_X12_X12_isDoor_X12_isDoor ml_X12_236 rfl (Nat.le_of_ble_eq_true rfl) (Nat.le_of_ble_eq_true rfl) (Nat.le_of_ble_eq_true rfl) (Nat.le_of_ble_eq_true rfl) (Nat.le_of_ble_eq_true rfl) dX12_oil_7 eo6 (k_X12_isDoor e4) rfl ?_
  show AW G lo 0 0 10 [(0, .ref (lo + x0)), (1, .int x1)] [.int r5] h3
  refine a_if_ne (tgt := 16) C dX12_oil_10 (by decide) (fun c12 => ?_) (fun c12 => ?_)
  · have e := iN c12 e
    refine a_aload_n C dX12_oil_16 rfl 0 rfl ?_
    obtain ⟨a14, e13, e⟩ := bA_some e
    refine a_getN C cb11 5 (by decide) fl_X12_19 rfl dX12_oil_17 e13 ?_
    refine a_iload_n C dX12_oil_20 rfl 1 rfl ?_
    refine a_iconst (v := (4 : Int32)) C dX12_oil_21 (by decide) ?_
    obtain ⟨r17, h15, e16, e⟩ := b2_some e
    refine a_callS (as := [.ref (lo + a14), .int x1, .int (4 : Int32)]) (rest := []) C m_X12_of sm_X12_of ml_X12_167 rfl (Nat.le_of_ble_eq_true rfl) (Nat.le_of_ble_eq_true rfl) (Nat.le_of_ble_eq_true rfl) (Nat.le_of_ble_eq_true rfl) (Nat.le_of_ble_eq_true rfl) dX12_oil_22 (k_X12_of e16) rfl ?_
    show AW G lo 0 0 25 [(0, .ref (lo + x0)), (1, .int x1)] [.int r17] h15
    refine a_istore_n (lv2 := [(2, .int r17), (0, .ref (lo + x0)), (1, .int x1)]) C dX12_oil_25 rfl (by decide) rfl ?_
    refine a_iload_n C dX12_oil_26 rfl 0 rfl ?_
    refine a_if_ne (tgt := 33) C dX12_oil_27 (by decide) (fun c23 => ?_) (fun c23 => ?_)
    · have e := iN c23 e
      refine a_aload_n C dX12_oil_33 rfl 1 rfl ?_
      obtain ⟨u30, ec29, e⟩ := bA_some e
      obtain ⟨fs28, eo27⟩ := isC_some ec29
      obtain ⟨h24, e25, e⟩ := bA_some e
      refine a_callV (as := []) (rest := []) C m_X12_keep im_X12_keep cb11 se_X12_X12_keep_X12_keep ml_X12_227 rfl (Nat.le_of_ble_eq_true rfl) (Nat.le_of_ble_eq_true rfl) (Nat.le_of_ble_eq_true rfl) (Nat.le_of_ble_eq_true rfl) (Nat.le_of_ble_eq_true rfl) dX12_oil_34 eo27 (k_X12_keep e25) rfl ?_
      show AW G lo 0 0 37 [(2, .int r17), (0, .ref (lo + x0)), (1, .int x1)] [] h24
      refine a_aload_n C dX12_oil_37 rfl 1 rfl ?_
      obtain ⟨a34, e33, e⟩ := bA_some e
      refine a_getN C cb11 5 (by decide) fl_X12_19 rfl dX12_oil_38 e33 ?_
      refine a_iload_n C dX12_oil_41 rfl 2 rfl ?_
      refine a_iconst (v := (4 : Int32)) C dX12_oil_42 (by decide) ?_
      refine a_iconst (v := (0 : Int32)) C dX12_oil_43 (by decide) ?_
      obtain ⟨h35, e36, e⟩ := bA_some e
      refine a_callS (as := [.ref (lo + a34), .int x1, .int (4 : Int32), .int (0 : Int32)]) (rest := []) C m_X12_be sm_X12_be ml_X12_188 rfl (Nat.le_of_ble_eq_true rfl) (Nat.le_of_ble_eq_true rfl) (Nat.le_of_ble_eq_true rfl) (Nat.le_of_ble_eq_true rfl) (Nat.le_of_ble_eq_true rfl) dX12_oil_44 (k_X12_be e36) rfl ?_
      show AW G lo 0 0 47 [(2, .int r17), (0, .ref (lo + x0)), (1, .int x1)] [] h35
      refine a_iload_n C dX12_oil_47 rfl 0 rfl ?_
      obtain ⟨rfl, rfl⟩ := sp2 e
      exact a_iret C q (Nat.le_of_ble_eq_true rfl) (Nat.le_of_ble_eq_true rfl) dX12_oil_48
    · have e := ip c23 e
      refine a_ldc C ko_X12_219 dX12_oil_30 ?_
      obtain ⟨rfl, rfl⟩ := sp2 e
      exact a_iret C q (Nat.le_of_ble_eq_true rfl) (Nat.le_of_ble_eq_true rfl) dX12_oil_32
  · have e := ip c12 e
    refine a_ldc C ko_X12_73 dX12_oil_13 ?_
    obtain ⟨rfl, rfl⟩ := sp2 e
    exact a_iret C q (Nat.le_of_ble_eq_true rfl) (Nat.le_of_ble_eq_true rfl) dX12_oil_15

set_option maxRecDepth 100000 in
def f_X12_weightOf_L4 {β : Type} (k : Int32 → Int32 → Hp → Option (β)) (x0 : Nat) : Nat → Hp → Int32 → Int32 → Option (β)
  | 0, _, _, _ => none
  | fuel + 1, h, x1, x2 => bA (ald h x0 0 (1 : Int32)) fun v1 => (if v1 ≤ x2 then k x1 x2 h else bA (ald h x0 0 ((6 : Int32) + x2)) fun v4 => f_X12_weightOf_L4 k x0 fuel h (x1 + v4) (x2 + (1 : Int32)))

set_option maxRecDepth 100000 in
def f_X12_weightOf (h : Hp) (x0 : Nat) : Option (Int32 × Hp) := f_X12_weightOf_L4 (fun y7 y8 h6 => some (y7, h6)) x0 2000 h (0 : Int32) (0 : Int32)

theorem m_X12_weightOf : MI yX12_weightOf cX12_weightOf 3 (some .int) 1 := ⟨co_X12_weightOf, ini_X12, by decide, by decide +kernel⟩
set_option maxRecDepth 100000 in
set_option maxHeartbeats 4000000 in
theorem w_X12_weightOf_L4 {G : Gm} {lo : Nat} {ce sl : Nat} (C : CX G lo cX12_weightOf RX12 (some .int) ({ frames := 0, cells := 0, slots := 0, locals := 0 } : Room) 3) {β : Type} {res : β} {k : Int32 → Int32 → Hp → Option (β)} {x0 : Nat} (hk : ∀ (h : Hp) (x1 : Int32) (x2 : Int32), k x1 x2 h = some res → AW G lo ce sl 26 [(0, .ref (lo + x0)), (1, .int x1), (2, .int x2)] [] h) (hce : ce ≤ 0) (hsl : sl ≤ 0) : ∀ (fuel : Nat) (h : Hp) (x1 : Int32) (x2 : Int32), f_X12_weightOf_L4 k x0 fuel h x1 x2 = some res → AW G lo ce sl 4 [(0, .ref (lo + x0)), (1, .int x1), (2, .int x2)] [] h := by
  intro fuel
  induction fuel with
  | zero =>
    intro h x1 x2 e
    cases (show (none : Option (β)) = some res from e)
  | succ fuel ih =>
    intro h x1 x2 e
    rw [f_X12_weightOf_L4] at e
    refine a_iload_n C dX12_weightOf_4 rfl 2 rfl ?_
    refine a_aload_n C dX12_weightOf_5 rfl 0 rfl ?_
    refine a_iconst (v := (1 : Int32)) C dX12_weightOf_6 (by decide) ?_
    obtain ⟨v1, e2, e⟩ := bA_some e
    refine a_iald C dX12_weightOf_7 e2 ?_
    refine a_icmp_ge (tgt := 26) C dX12_weightOf_8 (by decide) (fun c3 => ?_) (fun c3 => ?_)
    · have e := ip c3 e
      exact a_sub [0, 1, 2] rfl (hk _ _ _ e)
    · have e := iN c3 e
      refine a_iload_n C dX12_weightOf_11 rfl 1 rfl ?_
      refine a_aload_n C dX12_weightOf_12 rfl 0 rfl ?_
      refine a_bipush (v := (6 : Int32)) C dX12_weightOf_13 (by decide) ?_
      refine a_iload_n C dX12_weightOf_15 rfl 2 rfl ?_
      refine a_iadd C dX12_weightOf_16 ?_
      obtain ⟨v4, e5, e⟩ := bA_some e
      refine a_iald C dX12_weightOf_17 e5 ?_
      refine a_iadd C dX12_weightOf_18 ?_
      refine a_istore_n (lv2 := [(1, .int (x1 + v4)), (0, .ref (lo + x0)), (2, .int x2)]) C dX12_weightOf_19 rfl (by decide) rfl ?_
      refine a_iinc (v := x2 + (1 : Int32)) (lv2 := [(2, .int (x2 + (1 : Int32))), (1, .int (x1 + v4)), (0, .ref (lo + x0))]) C dX12_weightOf_20 2 rfl rfl (by decide) rfl ?_
      refine a_goto (tgt := 4) C dX12_weightOf_23 (by decide) ?_
      exact a_sub [2, 1, 0] rfl (ih _ _ _ e)
set_option maxRecDepth 100000 in
set_option maxHeartbeats 4000000 in
theorem k_X12_weightOf {lo : Nat} {h : Hp} {x0 : Nat} {r : Int32} {h' : Hp} (e : f_X12_weightOf h x0 = some (r, h')) : ∀ l d, AC l d lo yX12_weightOf cX12_weightOf 3 (some .int) ({ frames := 0, cells := 0, slots := 0, locals := 0 } : Room) [.ref (lo + x0)] h (some (.int r)) h' := by
  intro l d
  refine AC_of (by decide) (Nat.le_of_ble_eq_true rfl) ?_
  intro G C _ _ q
  unfold f_X12_weightOf at e
  show AW G lo 0 0 0 [(0, .ref (lo + x0))] [] h
  refine a_iconst (v := (0 : Int32)) C dX12_weightOf_0 (by decide) ?_
  refine a_istore_n (lv2 := [(1, .int (0 : Int32)), (0, .ref (lo + x0))]) C dX12_weightOf_1 rfl (by decide) rfl ?_
  refine a_iconst (v := (0 : Int32)) C dX12_weightOf_2 (by decide) ?_
  refine a_istore_n (lv2 := [(2, .int (0 : Int32)), (1, .int (0 : Int32)), (0, .ref (lo + x0))]) C dX12_weightOf_3 rfl (by decide) rfl ?_
  refine a_sub [2, 1, 0] rfl (w_X12_weightOf_L4 C ?_ (Nat.le_of_ble_eq_true rfl) (Nat.le_of_ble_eq_true rfl) 2000 _ _ _ e)
  intro h6 y7 y8 e
  show AW G lo 0 0 26 [(0, .ref (lo + x0)), (1, .int y7), (2, .int y8)] [] h6
  refine a_iload_n C dX12_weightOf_26 rfl 1 rfl ?_
  obtain ⟨rfl, rfl⟩ := sp2 e
  exact a_iret C q (Nat.le_of_ble_eq_true rfl) (Nat.le_of_ble_eq_true rfl) dX12_weightOf_27

set_option maxRecDepth 100000 in
def f_X12_bring (h : Hp) (x0 : Nat) (x1 : Int32) (x2 : Int32) : Option (Int32 × Hp) := bA (pV h x0 11 0 (.inl (0 : Int32))) fun h2 => bA (isC h2 x0 11) fun u9 => b2 (f_X12_isRoom h2 x0 x1) fun r5 h3 => (if r5 = 0 then some ((-1000001 : Int32), h3) else b2 (f_X12_in h3 x2.toInt64 (1 : Int64) (20 : Int64)) fun r15 h13 => (if r15 = 0 then some ((-1000001 : Int32), h13) else bA (gN h13 x0 11 5) fun a23 => bA (ald h13 a23 0 ((6 : Int32) + x1)) fun v24 => (if v24 ≤ 0 then bA (isC h13 x0 11) fun u33 => bA (f_X12_keep h13 x0 ) fun h27 => bA (gN h27 x0 11 5) fun a37 => bA (ast h27 a37 0 ((6 : Int32) + x1) x2) fun h38 => bA (gN h38 x0 11 5) fun a41 => b2 (f_X12_weightOf h38 a41) fun r44 h42 => some (r44, h42) else some ((-1000002 : Int32), h13))))

theorem m_X12_bring : MI yX12_bring cX12_bring 3 (some .int) 2 := ⟨co_X12_bring, ini_X12, by decide, by decide +kernel⟩
set_option maxRecDepth 100000 in
set_option maxHeartbeats 4000000 in
theorem k_X12_bring {lo : Nat} {h : Hp} {x0 : Nat} {x1 : Int32} {x2 : Int32} {r : Int32} {h' : Hp} (e : f_X12_bring h x0 x1 x2 = some (r, h')) : ∀ l d, AC l d lo yX12_bring cX12_bring 3 (some .int) ({ frames := 2, cells := 0, slots := 0, locals := 46 } : Room) [.ref (lo + x0), .int x1, .int x2] h (some (.int r)) h' := by
  intro l d
  refine AC_of (by decide) (Nat.le_of_ble_eq_true rfl) ?_
  intro G C _ _ q
  unfold f_X12_bring at e
  show AW G lo 0 0 0 [(0, .ref (lo + x0)), (1, .int x1), (2, .int x2)] [] h
  refine a_aload_n C dX12_bring_0 rfl 0 rfl ?_
  refine a_iconst (v := (0 : Int32)) C dX12_bring_1 (by decide) ?_
  obtain ⟨h2, e1, e⟩ := bA_some e
  refine a_putI C cb11 0 (by decide) fl_X12_53 rfl (by decide +kernel) dX12_bring_2 e1 ?_
  refine a_aload_n C dX12_bring_5 rfl 0 rfl ?_
  refine a_iload_n C dX12_bring_6 rfl 1 rfl ?_
  obtain ⟨u9, ec8, e⟩ := bA_some e
  obtain ⟨fs7, eo6⟩ := isC_some ec8
  obtain ⟨r5, h3, e4, e⟩ := b2_some e
  refine a_callV (as := [.int x1]) (rest := []) C m_X12_isRoom im_X12_isRoom cb11 se_X12_X12_isRoom_X12_isRoom ml_X12_239 rfl (Nat.le_of_ble_eq_true rfl) (Nat.le_of_ble_eq_true rfl) (Nat.le_of_ble_eq_true rfl) (Nat.le_of_ble_eq_true rfl) (Nat.le_of_ble_eq_true rfl) dX12_bring_7 eo6 (k_X12_isRoom e4) rfl ?_
  show AW G lo 0 0 10 [(0, .ref (lo + x0)), (1, .int x1), (2, .int x2)] [.int r5] h3
  refine a_if_eq (tgt := 25) C dX12_bring_10 (by decide) (fun c12 => ?_) (fun c12 => ?_)
  · have e := ip c12 e
    refine a_ldc C ko_X12_73 dX12_bring_25 ?_
    obtain ⟨rfl, rfl⟩ := sp2 e
    exact a_iret C q (Nat.le_of_ble_eq_true rfl) (Nat.le_of_ble_eq_true rfl) dX12_bring_27
  · have e := iN c12 e
    refine a_iload_n C dX12_bring_13 rfl 2 rfl ?_
    refine a_i2l C dX12_bring_14 ?_
    refine a_lconst (v := (1 : Int64)) C dX12_bring_15 (by decide) ?_
    refine a_ldc2 C kL_X12_242 dX12_bring_16 ?_
    obtain ⟨r15, h13, e14, e⟩ := b2_some e
    refine a_callS (as := [.long x2.toInt64, .long (1 : Int64), .long (20 : Int64)]) (rest := []) C m_X12_in sm_X12_in ml_X12_63 rfl (Nat.le_of_ble_eq_true rfl) (Nat.le_of_ble_eq_true rfl) (Nat.le_of_ble_eq_true rfl) (Nat.le_of_ble_eq_true rfl) (Nat.le_of_ble_eq_true rfl) dX12_bring_19 (k_X12_in e14) rfl ?_
    show AW G lo 0 0 22 [(0, .ref (lo + x0)), (1, .int x1), (2, .int x2)] [.int r15] h13
    refine a_if_ne (tgt := 28) C dX12_bring_22 (by decide) (fun c21 => ?_) (fun c21 => ?_)
    · have e := iN c21 e
      refine a_aload_n C dX12_bring_28 rfl 0 rfl ?_
      obtain ⟨a23, e22, e⟩ := bA_some e
      refine a_getN C cb11 5 (by decide) fl_X12_19 rfl dX12_bring_29 e22 ?_
      refine a_bipush (v := (6 : Int32)) C dX12_bring_32 (by decide) ?_
      refine a_iload_n C dX12_bring_34 rfl 1 rfl ?_
      refine a_iadd C dX12_bring_35 ?_
      obtain ⟨v24, e25, e⟩ := bA_some e
      refine a_iald C dX12_bring_36 e25 ?_
      refine a_if_le (tgt := 43) C dX12_bring_37 (by decide) (fun c26 => ?_) (fun c26 => ?_)
      · have e := ip c26 e
        refine a_aload_n C dX12_bring_43 rfl 0 rfl ?_
        obtain ⟨u33, ec32, e⟩ := bA_some e
        obtain ⟨fs31, eo30⟩ := isC_some ec32
        obtain ⟨h27, e28, e⟩ := bA_some e
        refine a_callV (as := []) (rest := []) C m_X12_keep im_X12_keep cb11 se_X12_X12_keep_X12_keep ml_X12_227 rfl (Nat.le_of_ble_eq_true rfl) (Nat.le_of_ble_eq_true rfl) (Nat.le_of_ble_eq_true rfl) (Nat.le_of_ble_eq_true rfl) (Nat.le_of_ble_eq_true rfl) dX12_bring_44 eo30 (k_X12_keep e28) rfl ?_
        show AW G lo 0 0 47 [(0, .ref (lo + x0)), (1, .int x1), (2, .int x2)] [] h27
        refine a_aload_n C dX12_bring_47 rfl 0 rfl ?_
        obtain ⟨a37, e36, e⟩ := bA_some e
        refine a_getN C cb11 5 (by decide) fl_X12_19 rfl dX12_bring_48 e36 ?_
        refine a_bipush (v := (6 : Int32)) C dX12_bring_51 (by decide) ?_
        refine a_iload_n C dX12_bring_53 rfl 1 rfl ?_
        refine a_iadd C dX12_bring_54 ?_
        refine a_iload_n C dX12_bring_55 rfl 2 rfl ?_
        obtain ⟨h38, e39, e⟩ := bA_some e
        refine a_iast C dX12_bring_56 e39 ?_
        refine a_aload_n C dX12_bring_57 rfl 0 rfl ?_
        obtain ⟨a41, e40, e⟩ := bA_some e
        refine a_getN C cb11 5 (by decide) fl_X12_19 rfl dX12_bring_58 e40 ?_
        obtain ⟨r44, h42, e43, e⟩ := b2_some e
        refine a_callS (as := [.ref (lo + a41)]) (rest := []) C m_X12_weightOf sm_X12_weightOf ml_X12_244 rfl (Nat.le_of_ble_eq_true rfl) (Nat.le_of_ble_eq_true rfl) (Nat.le_of_ble_eq_true rfl) (Nat.le_of_ble_eq_true rfl) (Nat.le_of_ble_eq_true rfl) dX12_bring_61 (k_X12_weightOf e43) rfl ?_
        show AW G lo 0 0 64 [(0, .ref (lo + x0)), (1, .int x1), (2, .int x2)] [.int r44] h42
        obtain ⟨rfl, rfl⟩ := sp2 e
        exact a_iret C q (Nat.le_of_ble_eq_true rfl) (Nat.le_of_ble_eq_true rfl) dX12_bring_64
      · have e := iN c26 e
        refine a_ldc C ko_X12_219 dX12_bring_40 ?_
        obtain ⟨rfl, rfl⟩ := sp2 e
        exact a_iret C q (Nat.le_of_ble_eq_true rfl) (Nat.le_of_ble_eq_true rfl) dX12_bring_42
    · have e := ip c21 e
      refine a_ldc C ko_X12_73 dX12_bring_25 ?_
      obtain ⟨rfl, rfl⟩ := sp2 e
      exact a_iret C q (Nat.le_of_ble_eq_true rfl) (Nat.le_of_ble_eq_true rfl) dX12_bring_27

set_option maxRecDepth 100000 in
def f_X12_rule (h : Hp) (x0 : Nat) (x1 : Int32) (x2 : Int32) : Option (Int32 × Hp) := bA (pV h x0 11 0 (.inl (0 : Int32))) fun h2 => bA (isC h2 x0 11) fun u9 => b2 (f_X12_isThere h2 x0 ) fun r5 h3 => (if r5 = 0 then some ((-1000002 : Int32), h3) else b2 (if x1 = 0 then b2 (f_X12_in h3 x2.toInt64 (0 : Int64) (63 : Int64)) fun r50 h48 => (if r50 = 0 then (if x1 = (1 : Int32) then b2 (f_X12_in h48 x2.toInt64 (1 : Int64) (9 : Int64)) fun r70 h68 => (if r70 = 0 then (if x1 = (2 : Int32) then b2 (f_X12_in h68 x2.toInt64 (1 : Int64) (60 : Int64)) fun r80 h78 => (if r80 = 0 then some ((0 : Int32), h78) else some ((1 : Int32), h78)) else some ((0 : Int32), h68)) else some ((1 : Int32), h68)) else (if x1 = (2 : Int32) then b2 (f_X12_in h48 x2.toInt64 (1 : Int64) (60 : Int64)) fun r61 h59 => (if r61 = 0 then some ((0 : Int32), h59) else some ((1 : Int32), h59)) else some ((0 : Int32), h48))) else some ((1 : Int32), h48)) else (if x1 = (1 : Int32) then b2 (f_X12_in h3 x2.toInt64 (1 : Int64) (9 : Int64)) fun r31 h29 => (if r31 = 0 then (if x1 = (2 : Int32) then b2 (f_X12_in h29 x2.toInt64 (1 : Int64) (60 : Int64)) fun r41 h39 => (if r41 = 0 then some ((0 : Int32), h39) else some ((1 : Int32), h39)) else some ((0 : Int32), h29)) else some ((1 : Int32), h29)) else (if x1 = (2 : Int32) then b2 (f_X12_in h3 x2.toInt64 (1 : Int64) (60 : Int64)) fun r22 h20 => (if r22 = 0 then some ((0 : Int32), h20) else some ((1 : Int32), h20)) else some ((0 : Int32), h3)))) fun j14 h15 => (if j14 = 0 then some ((-1000001 : Int32), h15) else bA (if x1 = 0 then some (4 : Int32) else (if x1 = (1 : Int32) then some (2 : Int32) else some (3 : Int32))) fun j89 => bA (isC h15 x0 11) fun u99 => bA (f_X12_keep h15 x0 ) fun h93 => bA (gN h93 x0 11 5) fun a103 => bA (ald h93 a103 0 j89) fun v104 => bA (gN h93 x0 11 5) fun a107 => bA (ast h93 a107 0 j89 x2) fun h108 => some (v104, h108)))

theorem m_X12_rule : MI yX12_rule cX12_rule 6 (some .int) 2 := ⟨co_X12_rule, ini_X12, by decide, by decide +kernel⟩
set_option maxRecDepth 100000 in
set_option maxHeartbeats 4000000 in
theorem k_X12_rule {lo : Nat} {h : Hp} {x0 : Nat} {x1 : Int32} {x2 : Int32} {r : Int32} {h' : Hp} (e : f_X12_rule h x0 x1 x2 = some (r, h')) : ∀ l d, AC l d lo yX12_rule cX12_rule 6 (some .int) ({ frames := 1, cells := 0, slots := 0, locals := 25 } : Room) [.ref (lo + x0), .int x1, .int x2] h (some (.int r)) h' := by
  intro l d
  refine AC_of (by decide) (Nat.le_of_ble_eq_true rfl) ?_
  intro G C _ _ q
  unfold f_X12_rule at e
  show AW G lo 0 0 0 [(0, .ref (lo + x0)), (1, .int x1), (2, .int x2)] [] h
  refine a_aload_n C dX12_rule_0 rfl 0 rfl ?_
  refine a_iconst (v := (0 : Int32)) C dX12_rule_1 (by decide) ?_
  obtain ⟨h2, e1, e⟩ := bA_some e
  refine a_putI C cb11 0 (by decide) fl_X12_53 rfl (by decide +kernel) dX12_rule_2 e1 ?_
  refine a_aload_n C dX12_rule_5 rfl 0 rfl ?_
  obtain ⟨u9, ec8, e⟩ := bA_some e
  obtain ⟨fs7, eo6⟩ := isC_some ec8
  obtain ⟨r5, h3, e4, e⟩ := b2_some e
  refine a_callV (as := []) (rest := []) C m_X12_isThere im_X12_isThere cb11 se_X12_X12_isThere_X12_isThere ml_X12_216 rfl (Nat.le_of_ble_eq_true rfl) (Nat.le_of_ble_eq_true rfl) (Nat.le_of_ble_eq_true rfl) (Nat.le_of_ble_eq_true rfl) (Nat.le_of_ble_eq_true rfl) dX12_rule_6 eo6 (k_X12_isThere e4) rfl ?_
  show AW G lo 0 0 9 [(0, .ref (lo + x0)), (1, .int x1), (2, .int x2)] [.int r5] h3
  refine a_if_ne (tgt := 15) C dX12_rule_9 (by decide) (fun c12 => ?_) (fun c12 => ?_)
  · have e := iN c12 e
    refine a_iload_n C dX12_rule_15 rfl 1 rfl ?_
    obtain ⟨j14, h15, eb17, e⟩ := b2_some e
    have jj16 : AW G lo 0 0 70 [(0, .ref (lo + x0)), (1, .int x1), (2, .int x2)] [.int j14] h15 := by
      refine a_istore_n (lv2 := [(3, .int j14), (0, .ref (lo + x0)), (1, .int x1), (2, .int x2)]) C dX12_rule_70 rfl (by decide) rfl ?_
      refine a_iload_n C dX12_rule_71 rfl 0 rfl ?_
      refine a_if_ne (tgt := 78) C dX12_rule_72 (by decide) (fun c87 => ?_) (fun c87 => ?_)
      · have e := iN c87 e
        refine a_iload_n C dX12_rule_78 rfl 2 rfl ?_
        obtain ⟨j89, eb91, e⟩ := bA_some e
        have jj90 : AW G lo 0 0 96 [(0, .ref (lo + x0)), (1, .int x1), (2, .int x2), (3, .int j14)] [.int j89] h15 := by
          refine a_istore (lv2 := [(4, .int j89), (0, .ref (lo + x0)), (1, .int x1), (2, .int x2), (3, .int j14)]) C dX12_rule_96 (by decide) rfl ?_
          refine a_aload_n C dX12_rule_98 rfl 1 rfl ?_
          obtain ⟨u99, ec98, e⟩ := bA_some e
          obtain ⟨fs97, eo96⟩ := isC_some ec98
          obtain ⟨h93, e94, e⟩ := bA_some e
          refine a_callV (as := []) (rest := []) C m_X12_keep im_X12_keep cb11 se_X12_X12_keep_X12_keep ml_X12_227 rfl (Nat.le_of_ble_eq_true rfl) (Nat.le_of_ble_eq_true rfl) (Nat.le_of_ble_eq_true rfl) (Nat.le_of_ble_eq_true rfl) (Nat.le_of_ble_eq_true rfl) dX12_rule_99 eo96 (k_X12_keep e94) rfl ?_
          show AW G lo 0 0 102 [(4, .int j89), (0, .ref (lo + x0)), (1, .int x1), (2, .int x2), (3, .int j14)] [] h93
          refine a_aload_n C dX12_rule_102 rfl 1 rfl ?_
          obtain ⟨a103, e102, e⟩ := bA_some e
          refine a_getN C cb11 5 (by decide) fl_X12_19 rfl dX12_rule_103 e102 ?_
          refine a_iload C dX12_rule_106 0 rfl ?_
          obtain ⟨v104, e105, e⟩ := bA_some e
          refine a_iald C dX12_rule_108 e105 ?_
          refine a_istore (lv2 := [(5, .int v104), (4, .int j89), (0, .ref (lo + x0)), (1, .int x1), (2, .int x2), (3, .int j14)]) C dX12_rule_109 (by decide) rfl ?_
          refine a_aload_n C dX12_rule_111 rfl 2 rfl ?_
          obtain ⟨a107, e106, e⟩ := bA_some e
          refine a_getN C cb11 5 (by decide) fl_X12_19 rfl dX12_rule_112 e106 ?_
          refine a_iload C dX12_rule_115 1 rfl ?_
          refine a_iload_n C dX12_rule_117 rfl 4 rfl ?_
          obtain ⟨h108, e109, e⟩ := bA_some e
          refine a_iast C dX12_rule_118 e109 ?_
          refine a_iload C dX12_rule_119 0 rfl ?_
          obtain ⟨rfl, rfl⟩ := sp2 e
          exact a_iret C q (Nat.le_of_ble_eq_true rfl) (Nat.le_of_ble_eq_true rfl) dX12_rule_121
        have e := eb91
        refine a_if_ne (tgt := 86) C dX12_rule_79 (by decide) (fun c88 => ?_) (fun c88 => ?_)
        · have e := iN c88 e
          refine a_iload_n C dX12_rule_86 rfl 2 rfl ?_
          refine a_iconst (v := (1 : Int32)) C dX12_rule_87 (by decide) ?_
          refine a_icmp_ne (tgt := 95) C dX12_rule_88 (by decide) (fun c92 => ?_) (fun c92 => ?_)
          · have e := iN c92 e
            refine a_iconst (v := (3 : Int32)) C dX12_rule_95 (by decide) ?_
            obtain rfl := sp1 e
            exact a_widen (Nat.le_of_ble_eq_true rfl) (Nat.le_of_ble_eq_true rfl) (a_sub [1, 2, 3, 0] rfl jj90)
          · have e := ip c92 e
            refine a_iconst (v := (2 : Int32)) C dX12_rule_91 (by decide) ?_
            refine a_goto (tgt := 96) C dX12_rule_92 (by decide) ?_
            obtain rfl := sp1 e
            exact a_widen (Nat.le_of_ble_eq_true rfl) (Nat.le_of_ble_eq_true rfl) (a_sub [1, 2, 3, 0] rfl jj90)
        · have e := ip c88 e
          refine a_iconst (v := (4 : Int32)) C dX12_rule_82 (by decide) ?_
          refine a_goto (tgt := 96) C dX12_rule_83 (by decide) ?_
          obtain rfl := sp1 e
          exact a_widen (Nat.le_of_ble_eq_true rfl) (Nat.le_of_ble_eq_true rfl) (a_sub [1, 2, 3, 0] rfl jj90)
      · have e := ip c87 e
        refine a_ldc C ko_X12_73 dX12_rule_75 ?_
        obtain ⟨rfl, rfl⟩ := sp2 e
        exact a_iret C q (Nat.le_of_ble_eq_true rfl) (Nat.le_of_ble_eq_true rfl) dX12_rule_77
    have e := eb17
    refine a_if_ne (tgt := 31) C dX12_rule_16 (by decide) (fun c13 => ?_) (fun c13 => ?_)
    · have e := iN c13 e
      refine a_iload_n C dX12_rule_31 rfl 1 rfl ?_
      refine a_iconst (v := (1 : Int32)) C dX12_rule_32 (by decide) ?_
      refine a_icmp_ne (tgt := 48) C dX12_rule_33 (by decide) (fun c18 => ?_) (fun c18 => ?_)
      · have e := iN c18 e
        refine a_iload_n C dX12_rule_48 rfl 1 rfl ?_
        refine a_iconst (v := (2 : Int32)) C dX12_rule_49 (by decide) ?_
        refine a_icmp_ne (tgt := 69) C dX12_rule_50 (by decide) (fun c19 => ?_) (fun c19 => ?_)
        · have e := iN c19 e
          refine a_iconst (v := (0 : Int32)) C dX12_rule_69 (by decide) ?_
          obtain ⟨rfl, rfl⟩ := sp2 e
          exact a_widen (Nat.le_of_ble_eq_true rfl) (Nat.le_of_ble_eq_true rfl) (a_sub [0, 1, 2] rfl jj16)
        · have e := ip c19 e
          refine a_iload_n C dX12_rule_53 rfl 2 rfl ?_
          refine a_i2l C dX12_rule_54 ?_
          refine a_lconst (v := (1 : Int64)) C dX12_rule_55 (by decide) ?_
          refine a_ldc2 C kL_X12_251 dX12_rule_56 ?_
          obtain ⟨r22, h20, e21, e⟩ := b2_some e
          refine a_callS (as := [.long x2.toInt64, .long (1 : Int64), .long (60 : Int64)]) (rest := []) C m_X12_in sm_X12_in ml_X12_63 rfl (Nat.le_of_ble_eq_true rfl) (Nat.le_of_ble_eq_true rfl) (Nat.le_of_ble_eq_true rfl) (Nat.le_of_ble_eq_true rfl) (Nat.le_of_ble_eq_true rfl) dX12_rule_59 (k_X12_in e21) rfl ?_
          show AW G lo 0 0 62 [(0, .ref (lo + x0)), (1, .int x1), (2, .int x2)] [.int r22] h20
          refine a_if_eq (tgt := 69) C dX12_rule_62 (by decide) (fun c28 => ?_) (fun c28 => ?_)
          · have e := ip c28 e
            refine a_iconst (v := (0 : Int32)) C dX12_rule_69 (by decide) ?_
            obtain ⟨rfl, rfl⟩ := sp2 e
            exact a_widen (Nat.le_of_ble_eq_true rfl) (Nat.le_of_ble_eq_true rfl) (a_sub [0, 1, 2] rfl jj16)
          · have e := iN c28 e
            refine a_iconst (v := (1 : Int32)) C dX12_rule_65 (by decide) ?_
            refine a_goto (tgt := 70) C dX12_rule_66 (by decide) ?_
            obtain ⟨rfl, rfl⟩ := sp2 e
            exact a_widen (Nat.le_of_ble_eq_true rfl) (Nat.le_of_ble_eq_true rfl) (a_sub [0, 1, 2] rfl jj16)
      · have e := ip c18 e
        refine a_iload_n C dX12_rule_36 rfl 2 rfl ?_
        refine a_i2l C dX12_rule_37 ?_
        refine a_lconst (v := (1 : Int64)) C dX12_rule_38 (by decide) ?_
        refine a_ldc2 C kL_X12_249 dX12_rule_39 ?_
        obtain ⟨r31, h29, e30, e⟩ := b2_some e
        refine a_callS (as := [.long x2.toInt64, .long (1 : Int64), .long (9 : Int64)]) (rest := []) C m_X12_in sm_X12_in ml_X12_63 rfl (Nat.le_of_ble_eq_true rfl) (Nat.le_of_ble_eq_true rfl) (Nat.le_of_ble_eq_true rfl) (Nat.le_of_ble_eq_true rfl) (Nat.le_of_ble_eq_true rfl) dX12_rule_42 (k_X12_in e30) rfl ?_
        show AW G lo 0 0 45 [(0, .ref (lo + x0)), (1, .int x1), (2, .int x2)] [.int r31] h29
        refine a_if_ne (tgt := 65) C dX12_rule_45 (by decide) (fun c37 => ?_) (fun c37 => ?_)
        · have e := iN c37 e
          refine a_iconst (v := (1 : Int32)) C dX12_rule_65 (by decide) ?_
          refine a_goto (tgt := 70) C dX12_rule_66 (by decide) ?_
          obtain ⟨rfl, rfl⟩ := sp2 e
          exact a_widen (Nat.le_of_ble_eq_true rfl) (Nat.le_of_ble_eq_true rfl) (a_sub [0, 1, 2] rfl jj16)
        · have e := ip c37 e
          refine a_iload_n C dX12_rule_48 rfl 1 rfl ?_
          refine a_iconst (v := (2 : Int32)) C dX12_rule_49 (by decide) ?_
          refine a_icmp_ne (tgt := 69) C dX12_rule_50 (by decide) (fun c38 => ?_) (fun c38 => ?_)
          · have e := iN c38 e
            refine a_iconst (v := (0 : Int32)) C dX12_rule_69 (by decide) ?_
            obtain ⟨rfl, rfl⟩ := sp2 e
            exact a_widen (Nat.le_of_ble_eq_true rfl) (Nat.le_of_ble_eq_true rfl) (a_sub [0, 1, 2] rfl jj16)
          · have e := ip c38 e
            refine a_iload_n C dX12_rule_53 rfl 2 rfl ?_
            refine a_i2l C dX12_rule_54 ?_
            refine a_lconst (v := (1 : Int64)) C dX12_rule_55 (by decide) ?_
            refine a_ldc2 C kL_X12_251 dX12_rule_56 ?_
            obtain ⟨r41, h39, e40, e⟩ := b2_some e
            refine a_callS (as := [.long x2.toInt64, .long (1 : Int64), .long (60 : Int64)]) (rest := []) C m_X12_in sm_X12_in ml_X12_63 rfl (Nat.le_of_ble_eq_true rfl) (Nat.le_of_ble_eq_true rfl) (Nat.le_of_ble_eq_true rfl) (Nat.le_of_ble_eq_true rfl) (Nat.le_of_ble_eq_true rfl) dX12_rule_59 (k_X12_in e40) rfl ?_
            show AW G lo 0 0 62 [(0, .ref (lo + x0)), (1, .int x1), (2, .int x2)] [.int r41] h39
            refine a_if_eq (tgt := 69) C dX12_rule_62 (by decide) (fun c47 => ?_) (fun c47 => ?_)
            · have e := ip c47 e
              refine a_iconst (v := (0 : Int32)) C dX12_rule_69 (by decide) ?_
              obtain ⟨rfl, rfl⟩ := sp2 e
              exact a_widen (Nat.le_of_ble_eq_true rfl) (Nat.le_of_ble_eq_true rfl) (a_sub [0, 1, 2] rfl jj16)
            · have e := iN c47 e
              refine a_iconst (v := (1 : Int32)) C dX12_rule_65 (by decide) ?_
              refine a_goto (tgt := 70) C dX12_rule_66 (by decide) ?_
              obtain ⟨rfl, rfl⟩ := sp2 e
              exact a_widen (Nat.le_of_ble_eq_true rfl) (Nat.le_of_ble_eq_true rfl) (a_sub [0, 1, 2] rfl jj16)
    · have e := ip c13 e
      refine a_iload_n C dX12_rule_19 rfl 2 rfl ?_
      refine a_i2l C dX12_rule_20 ?_
      refine a_lconst (v := (0 : Int64)) C dX12_rule_21 (by decide) ?_
      refine a_ldc2 C kL_X12_247 dX12_rule_22 ?_
      obtain ⟨r50, h48, e49, e⟩ := b2_some e
      refine a_callS (as := [.long x2.toInt64, .long (0 : Int64), .long (63 : Int64)]) (rest := []) C m_X12_in sm_X12_in ml_X12_63 rfl (Nat.le_of_ble_eq_true rfl) (Nat.le_of_ble_eq_true rfl) (Nat.le_of_ble_eq_true rfl) (Nat.le_of_ble_eq_true rfl) (Nat.le_of_ble_eq_true rfl) dX12_rule_25 (k_X12_in e49) rfl ?_
      show AW G lo 0 0 28 [(0, .ref (lo + x0)), (1, .int x1), (2, .int x2)] [.int r50] h48
      refine a_if_ne (tgt := 65) C dX12_rule_28 (by decide) (fun c56 => ?_) (fun c56 => ?_)
      · have e := iN c56 e
        refine a_iconst (v := (1 : Int32)) C dX12_rule_65 (by decide) ?_
        refine a_goto (tgt := 70) C dX12_rule_66 (by decide) ?_
        obtain ⟨rfl, rfl⟩ := sp2 e
        exact a_widen (Nat.le_of_ble_eq_true rfl) (Nat.le_of_ble_eq_true rfl) (a_sub [0, 1, 2] rfl jj16)
      · have e := ip c56 e
        refine a_iload_n C dX12_rule_31 rfl 1 rfl ?_
        refine a_iconst (v := (1 : Int32)) C dX12_rule_32 (by decide) ?_
        refine a_icmp_ne (tgt := 48) C dX12_rule_33 (by decide) (fun c57 => ?_) (fun c57 => ?_)
        · have e := iN c57 e
          refine a_iload_n C dX12_rule_48 rfl 1 rfl ?_
          refine a_iconst (v := (2 : Int32)) C dX12_rule_49 (by decide) ?_
          refine a_icmp_ne (tgt := 69) C dX12_rule_50 (by decide) (fun c58 => ?_) (fun c58 => ?_)
          · have e := iN c58 e
            refine a_iconst (v := (0 : Int32)) C dX12_rule_69 (by decide) ?_
            obtain ⟨rfl, rfl⟩ := sp2 e
            exact a_widen (Nat.le_of_ble_eq_true rfl) (Nat.le_of_ble_eq_true rfl) (a_sub [0, 1, 2] rfl jj16)
          · have e := ip c58 e
            refine a_iload_n C dX12_rule_53 rfl 2 rfl ?_
            refine a_i2l C dX12_rule_54 ?_
            refine a_lconst (v := (1 : Int64)) C dX12_rule_55 (by decide) ?_
            refine a_ldc2 C kL_X12_251 dX12_rule_56 ?_
            obtain ⟨r61, h59, e60, e⟩ := b2_some e
            refine a_callS (as := [.long x2.toInt64, .long (1 : Int64), .long (60 : Int64)]) (rest := []) C m_X12_in sm_X12_in ml_X12_63 rfl (Nat.le_of_ble_eq_true rfl) (Nat.le_of_ble_eq_true rfl) (Nat.le_of_ble_eq_true rfl) (Nat.le_of_ble_eq_true rfl) (Nat.le_of_ble_eq_true rfl) dX12_rule_59 (k_X12_in e60) rfl ?_
            show AW G lo 0 0 62 [(0, .ref (lo + x0)), (1, .int x1), (2, .int x2)] [.int r61] h59
            refine a_if_eq (tgt := 69) C dX12_rule_62 (by decide) (fun c67 => ?_) (fun c67 => ?_)
            · have e := ip c67 e
              refine a_iconst (v := (0 : Int32)) C dX12_rule_69 (by decide) ?_
              obtain ⟨rfl, rfl⟩ := sp2 e
              exact a_widen (Nat.le_of_ble_eq_true rfl) (Nat.le_of_ble_eq_true rfl) (a_sub [0, 1, 2] rfl jj16)
            · have e := iN c67 e
              refine a_iconst (v := (1 : Int32)) C dX12_rule_65 (by decide) ?_
              refine a_goto (tgt := 70) C dX12_rule_66 (by decide) ?_
              obtain ⟨rfl, rfl⟩ := sp2 e
              exact a_widen (Nat.le_of_ble_eq_true rfl) (Nat.le_of_ble_eq_true rfl) (a_sub [0, 1, 2] rfl jj16)
        · have e := ip c57 e
          refine a_iload_n C dX12_rule_36 rfl 2 rfl ?_
          refine a_i2l C dX12_rule_37 ?_
          refine a_lconst (v := (1 : Int64)) C dX12_rule_38 (by decide) ?_
          refine a_ldc2 C kL_X12_249 dX12_rule_39 ?_
          obtain ⟨r70, h68, e69, e⟩ := b2_some e
          refine a_callS (as := [.long x2.toInt64, .long (1 : Int64), .long (9 : Int64)]) (rest := []) C m_X12_in sm_X12_in ml_X12_63 rfl (Nat.le_of_ble_eq_true rfl) (Nat.le_of_ble_eq_true rfl) (Nat.le_of_ble_eq_true rfl) (Nat.le_of_ble_eq_true rfl) (Nat.le_of_ble_eq_true rfl) dX12_rule_42 (k_X12_in e69) rfl ?_
          show AW G lo 0 0 45 [(0, .ref (lo + x0)), (1, .int x1), (2, .int x2)] [.int r70] h68
          refine a_if_ne (tgt := 65) C dX12_rule_45 (by decide) (fun c76 => ?_) (fun c76 => ?_)
          · have e := iN c76 e
            refine a_iconst (v := (1 : Int32)) C dX12_rule_65 (by decide) ?_
            refine a_goto (tgt := 70) C dX12_rule_66 (by decide) ?_
            obtain ⟨rfl, rfl⟩ := sp2 e
            exact a_widen (Nat.le_of_ble_eq_true rfl) (Nat.le_of_ble_eq_true rfl) (a_sub [0, 1, 2] rfl jj16)
          · have e := ip c76 e
            refine a_iload_n C dX12_rule_48 rfl 1 rfl ?_
            refine a_iconst (v := (2 : Int32)) C dX12_rule_49 (by decide) ?_
            refine a_icmp_ne (tgt := 69) C dX12_rule_50 (by decide) (fun c77 => ?_) (fun c77 => ?_)
            · have e := iN c77 e
              refine a_iconst (v := (0 : Int32)) C dX12_rule_69 (by decide) ?_
              obtain ⟨rfl, rfl⟩ := sp2 e
              exact a_widen (Nat.le_of_ble_eq_true rfl) (Nat.le_of_ble_eq_true rfl) (a_sub [0, 1, 2] rfl jj16)
            · have e := ip c77 e
              refine a_iload_n C dX12_rule_53 rfl 2 rfl ?_
              refine a_i2l C dX12_rule_54 ?_
              refine a_lconst (v := (1 : Int64)) C dX12_rule_55 (by decide) ?_
              refine a_ldc2 C kL_X12_251 dX12_rule_56 ?_
              obtain ⟨r80, h78, e79, e⟩ := b2_some e
              refine a_callS (as := [.long x2.toInt64, .long (1 : Int64), .long (60 : Int64)]) (rest := []) C m_X12_in sm_X12_in ml_X12_63 rfl (Nat.le_of_ble_eq_true rfl) (Nat.le_of_ble_eq_true rfl) (Nat.le_of_ble_eq_true rfl) (Nat.le_of_ble_eq_true rfl) (Nat.le_of_ble_eq_true rfl) dX12_rule_59 (k_X12_in e79) rfl ?_
              show AW G lo 0 0 62 [(0, .ref (lo + x0)), (1, .int x1), (2, .int x2)] [.int r80] h78
              refine a_if_eq (tgt := 69) C dX12_rule_62 (by decide) (fun c86 => ?_) (fun c86 => ?_)
              · have e := ip c86 e
                refine a_iconst (v := (0 : Int32)) C dX12_rule_69 (by decide) ?_
                obtain ⟨rfl, rfl⟩ := sp2 e
                exact a_widen (Nat.le_of_ble_eq_true rfl) (Nat.le_of_ble_eq_true rfl) (a_sub [0, 1, 2] rfl jj16)
              · have e := iN c86 e
                refine a_iconst (v := (1 : Int32)) C dX12_rule_65 (by decide) ?_
                refine a_goto (tgt := 70) C dX12_rule_66 (by decide) ?_
                obtain ⟨rfl, rfl⟩ := sp2 e
                exact a_widen (Nat.le_of_ble_eq_true rfl) (Nat.le_of_ble_eq_true rfl) (a_sub [0, 1, 2] rfl jj16)
  · have e := ip c12 e
    refine a_ldc C ko_X12_219 dX12_rule_12 ?_
    obtain ⟨rfl, rfl⟩ := sp2 e
    exact a_iret C q (Nat.le_of_ble_eq_true rfl) (Nat.le_of_ble_eq_true rfl) dX12_rule_14

set_option maxRecDepth 100000 in
def f_X12_undo_L27 {β : Type} (k : Int32 → Hp → Option (β)) (x0 : Nat) : Nat → Hp → Int32 → Option (β)
  | 0, _, _ => none
  | fuel + 1, h, x1 => (if (54 : Int32) ≤ x1 then k x1 h else bA (gN h x0 11 5) fun a12 => bA (gN h x0 11 8) fun a14 => bA (gI h x0 11 9) fun g16 => bA (ald h a14 0 (((54 : Int32) * g16) + x1)) fun v17 => bA (ast h a12 0 x1 v17) fun h19 => f_X12_undo_L27 k x0 fuel h19 (x1 + (1 : Int32)))

set_option maxRecDepth 100000 in
def f_X12_undo (h : Hp) (x0 : Nat) : Option (Int32 × Hp) := bA (pV h x0 11 0 (.inl (0 : Int32))) fun h2 => bA (gI h2 x0 11 9) fun g4 => (if g4 = 0 then some ((-1000002 : Int32), h2) else bA (gI h2 x0 11 9) fun g7 => bA (pV h2 x0 11 9 (.inl (g7 - (1 : Int32)))) fun h9 => f_X12_undo_L27 (fun y22 h21 => bA (gI h21 x0 11 9) fun g24 => some (g24, h21)) x0 2000 h9 (0 : Int32))

theorem m_X12_undo : MI yX12_undo cX12_undo 2 (some .int) 0 := ⟨co_X12_undo, ini_X12, by decide, by decide +kernel⟩
set_option maxRecDepth 100000 in
set_option maxHeartbeats 4000000 in
theorem w_X12_undo_L27 {G : Gm} {lo : Nat} {ce sl : Nat} (C : CX G lo cX12_undo RX12 (some .int) ({ frames := 0, cells := 0, slots := 0, locals := 0 } : Room) 2) {β : Type} {res : β} {k : Int32 → Hp → Option (β)} {x0 : Nat} (hk : ∀ (h : Hp) (x1 : Int32), k x1 h = some res → AW G lo ce sl 59 [(0, .ref (lo + x0)), (1, .int x1)] [] h) (hce : ce ≤ 0) (hsl : sl ≤ 0) : ∀ (fuel : Nat) (h : Hp) (x1 : Int32), f_X12_undo_L27 k x0 fuel h x1 = some res → AW G lo ce sl 27 [(0, .ref (lo + x0)), (1, .int x1)] [] h := by
  intro fuel
  induction fuel with
  | zero =>
    intro h x1 e
    cases (show (none : Option (β)) = some res from e)
  | succ fuel ih =>
    intro h x1 e
    rw [f_X12_undo_L27] at e
    refine a_iload_n C dX12_undo_27 rfl 1 rfl ?_
    refine a_bipush (v := (54 : Int32)) C dX12_undo_28 (by decide) ?_
    refine a_icmp_ge (tgt := 59) C dX12_undo_30 (by decide) (fun c10 => ?_) (fun c10 => ?_)
    · have e := ip c10 e
      exact a_sub [0, 1] rfl (hk _ _ e)
    · have e := iN c10 e
      refine a_aload_n C dX12_undo_33 rfl 0 rfl ?_
      obtain ⟨a12, e11, e⟩ := bA_some e
      refine a_getN C cb11 5 (by decide) fl_X12_19 rfl dX12_undo_34 e11 ?_
      refine a_iload_n C dX12_undo_37 rfl 1 rfl ?_
      refine a_aload_n C dX12_undo_38 rfl 0 rfl ?_
      obtain ⟨a14, e13, e⟩ := bA_some e
      refine a_getN C cb11 8 (by decide) fl_X12_28 rfl dX12_undo_39 e13 ?_
      refine a_bipush (v := (54 : Int32)) C dX12_undo_42 (by decide) ?_
      refine a_aload_n C dX12_undo_44 rfl 0 rfl ?_
      obtain ⟨g16, e15, e⟩ := bA_some e
      refine a_getI C cb11 9 (by decide) fl_X12_161 rfl dX12_undo_45 e15 ?_
      refine a_imul C dX12_undo_48 ?_
      refine a_iload_n C dX12_undo_49 rfl 1 rfl ?_
      refine a_iadd C dX12_undo_50 ?_
      obtain ⟨v17, e18, e⟩ := bA_some e
      refine a_iald C dX12_undo_51 e18 ?_
      obtain ⟨h19, e20, e⟩ := bA_some e
      refine a_iast C dX12_undo_52 e20 ?_
      refine a_iinc (v := x1 + (1 : Int32)) (lv2 := [(1, .int (x1 + (1 : Int32))), (0, .ref (lo + x0))]) C dX12_undo_53 1 rfl rfl (by decide) rfl ?_
      refine a_goto (tgt := 27) C dX12_undo_56 (by decide) ?_
      exact a_sub [1, 0] rfl (ih _ _ e)
set_option maxRecDepth 100000 in
set_option maxHeartbeats 4000000 in
theorem k_X12_undo {lo : Nat} {h : Hp} {x0 : Nat} {r : Int32} {h' : Hp} (e : f_X12_undo h x0 = some (r, h')) : ∀ l d, AC l d lo yX12_undo cX12_undo 2 (some .int) ({ frames := 0, cells := 0, slots := 0, locals := 0 } : Room) [.ref (lo + x0)] h (some (.int r)) h' := by
  intro l d
  refine AC_of (by decide) (Nat.le_of_ble_eq_true rfl) ?_
  intro G C _ _ q
  unfold f_X12_undo at e
  show AW G lo 0 0 0 [(0, .ref (lo + x0))] [] h
  refine a_aload_n C dX12_undo_0 rfl 0 rfl ?_
  refine a_iconst (v := (0 : Int32)) C dX12_undo_1 (by decide) ?_
  obtain ⟨h2, e1, e⟩ := bA_some e
  refine a_putI C cb11 0 (by decide) fl_X12_53 rfl (by decide +kernel) dX12_undo_2 e1 ?_
  refine a_aload_n C dX12_undo_5 rfl 0 rfl ?_
  obtain ⟨g4, e3, e⟩ := bA_some e
  refine a_getI C cb11 9 (by decide) fl_X12_161 rfl dX12_undo_6 e3 ?_
  refine a_if_ne (tgt := 15) C dX12_undo_9 (by decide) (fun c5 => ?_) (fun c5 => ?_)
  · have e := iN c5 e
    refine a_aload_n C dX12_undo_15 rfl 0 rfl ?_
    refine a_dup C dX12_undo_16 rfl ?_
    obtain ⟨g7, e6, e⟩ := bA_some e
    refine a_getI C cb11 9 (by decide) fl_X12_161 rfl dX12_undo_17 e6 ?_
    refine a_iconst (v := (1 : Int32)) C dX12_undo_20 (by decide) ?_
    refine a_isub C dX12_undo_21 ?_
    obtain ⟨h9, e8, e⟩ := bA_some e
    refine a_putI C cb11 9 (by decide) fl_X12_161 rfl (by decide +kernel) dX12_undo_22 e8 ?_
    refine a_iconst (v := (0 : Int32)) C dX12_undo_25 (by decide) ?_
    refine a_istore_n (lv2 := [(1, .int (0 : Int32)), (0, .ref (lo + x0))]) C dX12_undo_26 rfl (by decide) rfl ?_
    refine a_sub [1, 0] rfl (w_X12_undo_L27 C ?_ (Nat.le_of_ble_eq_true rfl) (Nat.le_of_ble_eq_true rfl) 2000 _ _ e)
    intro h21 y22 e
    show AW G lo 0 0 59 [(0, .ref (lo + x0)), (1, .int y22)] [] h21
    refine a_aload_n C dX12_undo_59 rfl 0 rfl ?_
    obtain ⟨g24, e23, e⟩ := bA_some e
    refine a_getI C cb11 9 (by decide) fl_X12_161 rfl dX12_undo_60 e23 ?_
    obtain ⟨rfl, rfl⟩ := sp2 e
    exact a_iret C q (Nat.le_of_ble_eq_true rfl) (Nat.le_of_ble_eq_true rfl) dX12_undo_63
  · have e := ip c5 e
    refine a_ldc C ko_X12_219 dX12_undo_12 ?_
    obtain ⟨rfl, rfl⟩ := sp2 e
    exact a_iret C q (Nat.le_of_ble_eq_true rfl) (Nat.le_of_ble_eq_true rfl) dX12_undo_14

set_option maxRecDepth 100000 in
def f_X12_door (h : Hp) (x0 : Nat) (x1 : Int32) (x2 : Int32) : Option (Int32 × Hp) := bA (pV h x0 11 0 (.inl (0 : Int32))) fun h2 => bA (isC h2 x0 11) fun u9 => b2 (f_X12_isDoor h2 x0 x1) fun r5 h3 => (if r5 = 0 then some ((-1000001 : Int32), h3) else (if x2 = (0 : Int32) then bA (gN h3 x0 11 5) fun a16 => b2 (f_X12_of h3 a16 x1 (1 : Int32)) fun r19 h17 => some (r19, h17) else (if x2 = (1 : Int32) then bA (gN h3 x0 11 5) fun a27 => b2 (f_X12_of h3 a27 x1 (2 : Int32)) fun r30 h28 => some (r30, h28) else (if x2 = (2 : Int32) then bA (gN h3 x0 11 5) fun a38 => b2 (f_X12_of h3 a38 x1 (3 : Int32)) fun r41 h39 => some (r41, h39) else (if x2 = (3 : Int32) then bA (gN h3 x0 11 5) fun a49 => b2 (f_X12_of h3 a49 x1 (4 : Int32)) fun r52 h50 => some (r52, h50) else (if x2 = (4 : Int32) then bA (gN h3 x0 11 5) fun a60 => b2 (f_X12_loudOf h3 a60 x1) fun r63 h61 => some (r63, h61) else (if x2 = (5 : Int32) then bA (gN h3 x0 11 5) fun a71 => b2 (f_X12_gapOf h3 a71 x1) fun r74 h72 => some (r74, h72) else some ((-1000001 : Int32), h3))))))))

theorem m_X12_door : MI yX12_door cX12_door 3 (some .int) 2 := ⟨co_X12_door, ini_X12, by decide, by decide +kernel⟩
set_option maxRecDepth 100000 in
set_option maxHeartbeats 4000000 in
theorem k_X12_door {lo : Nat} {h : Hp} {x0 : Nat} {x1 : Int32} {x2 : Int32} {r : Int32} {h' : Hp} (e : f_X12_door h x0 x1 x2 = some (r, h')) : ∀ l d, AC l d lo yX12_door cX12_door 3 (some .int) ({ frames := 2, cells := 0, slots := 0, locals := 46 } : Room) [.ref (lo + x0), .int x1, .int x2] h (some (.int r)) h' := by
  intro l d
  refine AC_of (by decide) (Nat.le_of_ble_eq_true rfl) ?_
  intro G C _ _ q
  unfold f_X12_door at e
  show AW G lo 0 0 0 [(0, .ref (lo + x0)), (1, .int x1), (2, .int x2)] [] h
  refine a_aload_n C dX12_door_0 rfl 0 rfl ?_
  refine a_iconst (v := (0 : Int32)) C dX12_door_1 (by decide) ?_
  obtain ⟨h2, e1, e⟩ := bA_some e
  refine a_putI C cb11 0 (by decide) fl_X12_53 rfl (by decide +kernel) dX12_door_2 e1 ?_
  refine a_aload_n C dX12_door_5 rfl 0 rfl ?_
  refine a_iload_n C dX12_door_6 rfl 1 rfl ?_
  obtain ⟨u9, ec8, e⟩ := bA_some e
  obtain ⟨fs7, eo6⟩ := isC_some ec8
  obtain ⟨r5, h3, e4, e⟩ := b2_some e
  refine a_callV (as := [.int x1]) (rest := []) C m_X12_isDoor im_X12_isDoor cb11 se_X12_X12_isDoor_X12_isDoor ml_X12_236 rfl (Nat.le_of_ble_eq_true rfl) (Nat.le_of_ble_eq_true rfl) (Nat.le_of_ble_eq_true rfl) (Nat.le_of_ble_eq_true rfl) (Nat.le_of_ble_eq_true rfl) dX12_door_7 eo6 (k_X12_isDoor e4) rfl ?_
  show AW G lo 0 0 10 [(0, .ref (lo + x0)), (1, .int x1), (2, .int x2)] [.int r5] h3
  refine a_if_ne (tgt := 16) C dX12_door_10 (by decide) (fun c12 => ?_) (fun c12 => ?_)
  · have e := iN c12 e
    refine a_iload_n C dX12_door_16 rfl 2 rfl ?_
    have hxx13 : x2 = x2 := rfl
    by_cases c14 : x2 = (0 : Int32)
    · have e := ip c14 e
      refine a_tableIn (tgt := 56) C dX12_door_17 (by rw [c14]; decide) (by rw [c14]; decide) (by rw [c14]; first | done | rfl) (by decide) ?_
      refine a_aload_n C dX12_door_56 rfl 0 rfl ?_
      obtain ⟨a16, e15, e⟩ := bA_some e
      refine a_getN C cb11 5 (by decide) fl_X12_19 rfl dX12_door_57 e15 ?_
      refine a_iload_n C dX12_door_60 rfl 1 rfl ?_
      refine a_iconst (v := (1 : Int32)) C dX12_door_61 (by decide) ?_
      obtain ⟨r19, h17, e18, e⟩ := b2_some e
      refine a_callS (as := [.ref (lo + a16), .int x1, .int (1 : Int32)]) (rest := []) C m_X12_of sm_X12_of ml_X12_167 rfl (Nat.le_of_ble_eq_true rfl) (Nat.le_of_ble_eq_true rfl) (Nat.le_of_ble_eq_true rfl) (Nat.le_of_ble_eq_true rfl) (Nat.le_of_ble_eq_true rfl) dX12_door_62 (k_X12_of e18) rfl ?_
      show AW G lo 0 0 65 [(0, .ref (lo + x0)), (1, .int x1), (2, .int x2)] [.int r19] h17
      obtain ⟨rfl, rfl⟩ := sp2 e
      exact a_iret C q (Nat.le_of_ble_eq_true rfl) (Nat.le_of_ble_eq_true rfl) dX12_door_65
    have e := iN c14 e
    by_cases c25 : x2 = (1 : Int32)
    · have e := ip c25 e
      refine a_tableIn (tgt := 66) C dX12_door_17 (by rw [c25]; decide) (by rw [c25]; decide) (by rw [c25]; first | done | rfl) (by decide) ?_
      refine a_aload_n C dX12_door_66 rfl 0 rfl ?_
      obtain ⟨a27, e26, e⟩ := bA_some e
      refine a_getN C cb11 5 (by decide) fl_X12_19 rfl dX12_door_67 e26 ?_
      refine a_iload_n C dX12_door_70 rfl 1 rfl ?_
      refine a_iconst (v := (2 : Int32)) C dX12_door_71 (by decide) ?_
      obtain ⟨r30, h28, e29, e⟩ := b2_some e
      refine a_callS (as := [.ref (lo + a27), .int x1, .int (2 : Int32)]) (rest := []) C m_X12_of sm_X12_of ml_X12_167 rfl (Nat.le_of_ble_eq_true rfl) (Nat.le_of_ble_eq_true rfl) (Nat.le_of_ble_eq_true rfl) (Nat.le_of_ble_eq_true rfl) (Nat.le_of_ble_eq_true rfl) dX12_door_72 (k_X12_of e29) rfl ?_
      show AW G lo 0 0 75 [(0, .ref (lo + x0)), (1, .int x1), (2, .int x2)] [.int r30] h28
      obtain ⟨rfl, rfl⟩ := sp2 e
      exact a_iret C q (Nat.le_of_ble_eq_true rfl) (Nat.le_of_ble_eq_true rfl) dX12_door_75
    have e := iN c25 e
    by_cases c36 : x2 = (2 : Int32)
    · have e := ip c36 e
      refine a_tableIn (tgt := 76) C dX12_door_17 (by rw [c36]; decide) (by rw [c36]; decide) (by rw [c36]; first | done | rfl) (by decide) ?_
      refine a_aload_n C dX12_door_76 rfl 0 rfl ?_
      obtain ⟨a38, e37, e⟩ := bA_some e
      refine a_getN C cb11 5 (by decide) fl_X12_19 rfl dX12_door_77 e37 ?_
      refine a_iload_n C dX12_door_80 rfl 1 rfl ?_
      refine a_iconst (v := (3 : Int32)) C dX12_door_81 (by decide) ?_
      obtain ⟨r41, h39, e40, e⟩ := b2_some e
      refine a_callS (as := [.ref (lo + a38), .int x1, .int (3 : Int32)]) (rest := []) C m_X12_of sm_X12_of ml_X12_167 rfl (Nat.le_of_ble_eq_true rfl) (Nat.le_of_ble_eq_true rfl) (Nat.le_of_ble_eq_true rfl) (Nat.le_of_ble_eq_true rfl) (Nat.le_of_ble_eq_true rfl) dX12_door_82 (k_X12_of e40) rfl ?_
      show AW G lo 0 0 85 [(0, .ref (lo + x0)), (1, .int x1), (2, .int x2)] [.int r41] h39
      obtain ⟨rfl, rfl⟩ := sp2 e
      exact a_iret C q (Nat.le_of_ble_eq_true rfl) (Nat.le_of_ble_eq_true rfl) dX12_door_85
    have e := iN c36 e
    by_cases c47 : x2 = (3 : Int32)
    · have e := ip c47 e
      refine a_tableIn (tgt := 86) C dX12_door_17 (by rw [c47]; decide) (by rw [c47]; decide) (by rw [c47]; first | done | rfl) (by decide) ?_
      refine a_aload_n C dX12_door_86 rfl 0 rfl ?_
      obtain ⟨a49, e48, e⟩ := bA_some e
      refine a_getN C cb11 5 (by decide) fl_X12_19 rfl dX12_door_87 e48 ?_
      refine a_iload_n C dX12_door_90 rfl 1 rfl ?_
      refine a_iconst (v := (4 : Int32)) C dX12_door_91 (by decide) ?_
      obtain ⟨r52, h50, e51, e⟩ := b2_some e
      refine a_callS (as := [.ref (lo + a49), .int x1, .int (4 : Int32)]) (rest := []) C m_X12_of sm_X12_of ml_X12_167 rfl (Nat.le_of_ble_eq_true rfl) (Nat.le_of_ble_eq_true rfl) (Nat.le_of_ble_eq_true rfl) (Nat.le_of_ble_eq_true rfl) (Nat.le_of_ble_eq_true rfl) dX12_door_92 (k_X12_of e51) rfl ?_
      show AW G lo 0 0 95 [(0, .ref (lo + x0)), (1, .int x1), (2, .int x2)] [.int r52] h50
      obtain ⟨rfl, rfl⟩ := sp2 e
      exact a_iret C q (Nat.le_of_ble_eq_true rfl) (Nat.le_of_ble_eq_true rfl) dX12_door_95
    have e := iN c47 e
    by_cases c58 : x2 = (4 : Int32)
    · have e := ip c58 e
      refine a_tableIn (tgt := 96) C dX12_door_17 (by rw [c58]; decide) (by rw [c58]; decide) (by rw [c58]; first | done | rfl) (by decide) ?_
      refine a_aload_n C dX12_door_96 rfl 0 rfl ?_
      obtain ⟨a60, e59, e⟩ := bA_some e
      refine a_getN C cb11 5 (by decide) fl_X12_19 rfl dX12_door_97 e59 ?_
      refine a_iload_n C dX12_door_100 rfl 1 rfl ?_
      obtain ⟨r63, h61, e62, e⟩ := b2_some e
      refine a_callS (as := [.ref (lo + a60), .int x1]) (rest := []) C m_X12_loudOf sm_X12_loudOf ml_X12_185 rfl (Nat.le_of_ble_eq_true rfl) (Nat.le_of_ble_eq_true rfl) (Nat.le_of_ble_eq_true rfl) (Nat.le_of_ble_eq_true rfl) (Nat.le_of_ble_eq_true rfl) dX12_door_101 (k_X12_loudOf e62) rfl ?_
      show AW G lo 0 0 104 [(0, .ref (lo + x0)), (1, .int x1), (2, .int x2)] [.int r63] h61
      obtain ⟨rfl, rfl⟩ := sp2 e
      exact a_iret C q (Nat.le_of_ble_eq_true rfl) (Nat.le_of_ble_eq_true rfl) dX12_door_104
    have e := iN c58 e
    by_cases c69 : x2 = (5 : Int32)
    · have e := ip c69 e
      refine a_tableIn (tgt := 105) C dX12_door_17 (by rw [c69]; decide) (by rw [c69]; decide) (by rw [c69]; first | done | rfl) (by decide) ?_
      refine a_aload_n C dX12_door_105 rfl 0 rfl ?_
      obtain ⟨a71, e70, e⟩ := bA_some e
      refine a_getN C cb11 5 (by decide) fl_X12_19 rfl dX12_door_106 e70 ?_
      refine a_iload_n C dX12_door_109 rfl 1 rfl ?_
      obtain ⟨r74, h72, e73, e⟩ := b2_some e
      refine a_callS (as := [.ref (lo + a71), .int x1]) (rest := []) C m_X12_gapOf sm_X12_gapOf ml_X12_174 rfl (Nat.le_of_ble_eq_true rfl) (Nat.le_of_ble_eq_true rfl) (Nat.le_of_ble_eq_true rfl) (Nat.le_of_ble_eq_true rfl) (Nat.le_of_ble_eq_true rfl) dX12_door_110 (k_X12_gapOf e73) rfl ?_
      show AW G lo 0 0 113 [(0, .ref (lo + x0)), (1, .int x1), (2, .int x2)] [.int r74] h72
      obtain ⟨rfl, rfl⟩ := sp2 e
      exact a_iret C q (Nat.le_of_ble_eq_true rfl) (Nat.le_of_ble_eq_true rfl) dX12_door_113
    have e := iN c69 e
    refine a_tableOut (tgt := 114) C dX12_door_17 (Classical.byContradiction fun hz => ?_) (by decide) ?_
    · have hz2 : x2.toInt = 0 ∨ x2.toInt = 1 ∨ x2.toInt = 2 ∨ x2.toInt = 3 ∨ x2.toInt = 4 ∨ x2.toInt = 5 := by omega
      rcases hz2 with hz3 | hz3 | hz3 | hz3 | hz3 | hz3
      · exact c14 (Int32.toInt_inj.mp (hz3.trans (by decide)))
      · exact c25 (Int32.toInt_inj.mp (hz3.trans (by decide)))
      · exact c36 (Int32.toInt_inj.mp (hz3.trans (by decide)))
      · exact c47 (Int32.toInt_inj.mp (hz3.trans (by decide)))
      · exact c58 (Int32.toInt_inj.mp (hz3.trans (by decide)))
      · exact c69 (Int32.toInt_inj.mp (hz3.trans (by decide)))
    · refine a_ldc C ko_X12_73 dX12_door_114 ?_
      obtain ⟨rfl, rfl⟩ := sp2 e
      exact a_iret C q (Nat.le_of_ble_eq_true rfl) (Nat.le_of_ble_eq_true rfl) dX12_door_116
  · have e := ip c12 e
    refine a_ldc C ko_X12_73 dX12_door_13 ?_
    obtain ⟨rfl, rfl⟩ := sp2 e
    exact a_iret C q (Nat.le_of_ble_eq_true rfl) (Nat.le_of_ble_eq_true rfl) dX12_door_15

set_option maxRecDepth 100000 in
def f_X12_room_L31 {β : Type} (k : Int32 → Int32 → Hp → Option (β)) (x0 : Nat) (x1 : Int32) (x2 : Int32) : Nat → Hp → Int32 → Int32 → Option (β)
  | 0, _, _, _ => none
  | fuel + 1, h, x3, x4 => bA (gN h x0 11 5) fun a23 => bA (ald h a23 0 (0 : Int32)) fun v24 => (if v24 ≤ x4 then k x3 x4 h else bA (gN h x0 11 5) fun a28 => b2 (f_X12_of h a28 x4 (1 : Int32)) fun r31 h29 => b2 (if r31 = x1 then some (((1 : Int32) <<< (x4 &&& 31)), h29) else bA (gN h29 x0 11 5) fun a43 => b2 (f_X12_of h29 a43 x4 (2 : Int32)) fun r46 h44 => (if r46 = x1 then some (((1 : Int32) <<< (x4 &&& 31)), h44) else some ((0 : Int32), h44))) fun j38 h39 => f_X12_room_L31 k x0 x1 x2 fuel h39 (x3 ||| j38) (x4 + (1 : Int32)))

set_option maxRecDepth 100000 in
def f_X12_room (h : Hp) (x0 : Nat) (x1 : Int32) (x2 : Int32) : Option (Int32 × Hp) := bA (pV h x0 11 0 (.inl (0 : Int32))) fun h2 => bA (isC h2 x0 11) fun u9 => b2 (f_X12_isRoom h2 x0 x1) fun r5 h3 => (if r5 = 0 then some ((-1000001 : Int32), h3) else b2 (f_X12_in h3 x2.toInt64 (0 : Int64) (1 : Int64)) fun r15 h13 => (if r15 = 0 then some ((-1000001 : Int32), h13) else f_X12_room_L31 (fun y54 y55 h53 => bA (if x2 = 0 then bA (gN h53 x0 11 5) fun a61 => bA (ald h53 a61 0 ((6 : Int32) + x1)) fun v62 => some v62 else some y54) fun j57 => some (j57, h53)) x0 x1 x2 2000 h13 (0 : Int32) (0 : Int32)))

theorem m_X12_room : MI yX12_room cX12_room 5 (some .int) 2 := ⟨co_X12_room, ini_X12, by decide, by decide +kernel⟩
set_option maxRecDepth 100000 in
set_option maxHeartbeats 4000000 in
theorem w_X12_room_L31 {G : Gm} {lo : Nat} {ce sl : Nat} (C : CX G lo cX12_room RX12 (some .int) ({ frames := 2, cells := 0, slots := 0, locals := 46 } : Room) 5) {β : Type} {res : β} {k : Int32 → Int32 → Hp → Option (β)} {x0 : Nat} {x1 : Int32} {x2 : Int32} (hk : ∀ (h : Hp) (x3 : Int32) (x4 : Int32), k x3 x4 h = some res → AW G lo ce sl 87 [(0, .ref (lo + x0)), (1, .int x1), (2, .int x2), (3, .int x3), (4, .int x4)] [] h) (hce : ce ≤ 0) (hsl : sl ≤ 0) : ∀ (fuel : Nat) (h : Hp) (x3 : Int32) (x4 : Int32), f_X12_room_L31 k x0 x1 x2 fuel h x3 x4 = some res → AW G lo ce sl 31 [(0, .ref (lo + x0)), (1, .int x1), (2, .int x2), (3, .int x3), (4, .int x4)] [] h := by
  intro fuel
  induction fuel with
  | zero =>
    intro h x3 x4 e
    cases (show (none : Option (β)) = some res from e)
  | succ fuel ih =>
    intro h x3 x4 e
    rw [f_X12_room_L31] at e
    refine a_iload C dX12_room_31 4 rfl ?_
    refine a_aload_n C dX12_room_33 rfl 0 rfl ?_
    obtain ⟨a23, e22, e⟩ := bA_some e
    refine a_getN C cb11 5 (by decide) fl_X12_19 rfl dX12_room_34 e22 ?_
    refine a_iconst (v := (0 : Int32)) C dX12_room_37 (by decide) ?_
    obtain ⟨v24, e25, e⟩ := bA_some e
    refine a_iald C dX12_room_38 e25 ?_
    refine a_icmp_ge (tgt := 87) C dX12_room_39 (by decide) (fun c26 => ?_) (fun c26 => ?_)
    · have e := ip c26 e
      exact a_sub [0, 1, 2, 3, 4] rfl (hk _ _ _ e)
    · have e := iN c26 e
      refine a_iload_n C dX12_room_42 rfl 3 rfl ?_
      refine a_aload_n C dX12_room_43 rfl 0 rfl ?_
      obtain ⟨a28, e27, e⟩ := bA_some e
      refine a_getN C cb11 5 (by decide) fl_X12_19 rfl dX12_room_44 e27 ?_
      refine a_iload C dX12_room_47 4 rfl ?_
      refine a_iconst (v := (1 : Int32)) C dX12_room_49 (by decide) ?_
      obtain ⟨r31, h29, e30, e⟩ := b2_some e
      refine a_callS (as := [.ref (lo + a28), .int x4, .int (1 : Int32)]) (rest := [.int x3]) C m_X12_of sm_X12_of ml_X12_167 rfl (Nat.le_of_ble_eq_true rfl) (Nat.le_of_ble_eq_true rfl) (by exact hce) (by exact hsl) (Nat.le_of_ble_eq_true rfl) dX12_room_50 (k_X12_of e30) rfl ?_
      show AW G lo ce sl 53 [(0, .ref (lo + x0)), (1, .int x1), (2, .int x2), (3, .int x3), (4, .int x4)] [.int r31, .int x3] h29
      refine a_iload_n C dX12_room_53 rfl 1 rfl ?_
      obtain ⟨j38, h39, eb41, e⟩ := b2_some e
      have jj40 : AW G lo ce sl 79 [(0, .ref (lo + x0)), (1, .int x1), (2, .int x2), (3, .int x3), (4, .int x4)] [.int j38, .int x3] h39 := by
        refine a_ior C dX12_room_79 ?_
        refine a_istore_n (lv2 := [(3, .int (x3 ||| j38)), (0, .ref (lo + x0)), (1, .int x1), (2, .int x2), (4, .int x4)]) C dX12_room_80 rfl (by decide) rfl ?_
        refine a_iinc (v := x4 + (1 : Int32)) (lv2 := [(4, .int (x4 + (1 : Int32))), (3, .int (x3 ||| j38)), (0, .ref (lo + x0)), (1, .int x1), (2, .int x2)]) C dX12_room_81 4 rfl rfl (by decide) rfl ?_
        refine a_goto (tgt := 31) C dX12_room_84 (by decide) ?_
        exact a_sub [2, 3, 4, 1, 0] rfl (ih _ _ _ e)
      have e := eb41
      refine a_icmp_eq (tgt := 71) C dX12_room_54 (by decide) (fun c37 => ?_) (fun c37 => ?_)
      · have e := ip c37 e
        refine a_iconst (v := (1 : Int32)) C dX12_room_71 (by decide) ?_
        refine a_iload C dX12_room_72 4 rfl ?_
        refine a_ishl C dX12_room_74 ?_
        refine a_goto (tgt := 79) C dX12_room_75 (by decide) ?_
        obtain ⟨rfl, rfl⟩ := sp2 e
        exact a_widen (Nat.le_refl _) (Nat.le_refl _) (a_sub [0, 1, 2, 3, 4] rfl jj40)
      · have e := iN c37 e
        refine a_aload_n C dX12_room_57 rfl 0 rfl ?_
        obtain ⟨a43, e42, e⟩ := bA_some e
        refine a_getN C cb11 5 (by decide) fl_X12_19 rfl dX12_room_58 e42 ?_
        refine a_iload C dX12_room_61 4 rfl ?_
        refine a_iconst (v := (2 : Int32)) C dX12_room_63 (by decide) ?_
        obtain ⟨r46, h44, e45, e⟩ := b2_some e
        refine a_callS (as := [.ref (lo + a43), .int x4, .int (2 : Int32)]) (rest := [.int x3]) C m_X12_of sm_X12_of ml_X12_167 rfl (Nat.le_of_ble_eq_true rfl) (Nat.le_of_ble_eq_true rfl) (by exact hce) (by exact hsl) (Nat.le_of_ble_eq_true rfl) dX12_room_64 (k_X12_of e45) rfl ?_
        show AW G lo ce sl 67 [(0, .ref (lo + x0)), (1, .int x1), (2, .int x2), (3, .int x3), (4, .int x4)] [.int r46, .int x3] h44
        refine a_iload_n C dX12_room_67 rfl 1 rfl ?_
        refine a_icmp_ne (tgt := 78) C dX12_room_68 (by decide) (fun c52 => ?_) (fun c52 => ?_)
        · have e := iN c52 e
          refine a_iconst (v := (0 : Int32)) C dX12_room_78 (by decide) ?_
          obtain ⟨rfl, rfl⟩ := sp2 e
          exact a_widen (Nat.le_refl _) (Nat.le_refl _) (a_sub [0, 1, 2, 3, 4] rfl jj40)
        · have e := ip c52 e
          refine a_iconst (v := (1 : Int32)) C dX12_room_71 (by decide) ?_
          refine a_iload C dX12_room_72 4 rfl ?_
          refine a_ishl C dX12_room_74 ?_
          refine a_goto (tgt := 79) C dX12_room_75 (by decide) ?_
          obtain ⟨rfl, rfl⟩ := sp2 e
          exact a_widen (Nat.le_refl _) (Nat.le_refl _) (a_sub [0, 1, 2, 3, 4] rfl jj40)
set_option maxRecDepth 100000 in
set_option maxHeartbeats 4000000 in
theorem k_X12_room {lo : Nat} {h : Hp} {x0 : Nat} {x1 : Int32} {x2 : Int32} {r : Int32} {h' : Hp} (e : f_X12_room h x0 x1 x2 = some (r, h')) : ∀ l d, AC l d lo yX12_room cX12_room 5 (some .int) ({ frames := 2, cells := 0, slots := 0, locals := 46 } : Room) [.ref (lo + x0), .int x1, .int x2] h (some (.int r)) h' := by
  intro l d
  refine AC_of (by decide) (Nat.le_of_ble_eq_true rfl) ?_
  intro G C _ _ q
  unfold f_X12_room at e
  show AW G lo 0 0 0 [(0, .ref (lo + x0)), (1, .int x1), (2, .int x2)] [] h
  refine a_aload_n C dX12_room_0 rfl 0 rfl ?_
  refine a_iconst (v := (0 : Int32)) C dX12_room_1 (by decide) ?_
  obtain ⟨h2, e1, e⟩ := bA_some e
  refine a_putI C cb11 0 (by decide) fl_X12_53 rfl (by decide +kernel) dX12_room_2 e1 ?_
  refine a_aload_n C dX12_room_5 rfl 0 rfl ?_
  refine a_iload_n C dX12_room_6 rfl 1 rfl ?_
  obtain ⟨u9, ec8, e⟩ := bA_some e
  obtain ⟨fs7, eo6⟩ := isC_some ec8
  obtain ⟨r5, h3, e4, e⟩ := b2_some e
  refine a_callV (as := [.int x1]) (rest := []) C m_X12_isRoom im_X12_isRoom cb11 se_X12_X12_isRoom_X12_isRoom ml_X12_239 rfl (Nat.le_of_ble_eq_true rfl) (Nat.le_of_ble_eq_true rfl) (Nat.le_of_ble_eq_true rfl) (Nat.le_of_ble_eq_true rfl) (Nat.le_of_ble_eq_true rfl) dX12_room_7 eo6 (k_X12_isRoom e4) rfl ?_
  show AW G lo 0 0 10 [(0, .ref (lo + x0)), (1, .int x1), (2, .int x2)] [.int r5] h3
  refine a_if_eq (tgt := 23) C dX12_room_10 (by decide) (fun c12 => ?_) (fun c12 => ?_)
  · have e := ip c12 e
    refine a_ldc C ko_X12_73 dX12_room_23 ?_
    obtain ⟨rfl, rfl⟩ := sp2 e
    exact a_iret C q (Nat.le_of_ble_eq_true rfl) (Nat.le_of_ble_eq_true rfl) dX12_room_25
  · have e := iN c12 e
    refine a_iload_n C dX12_room_13 rfl 2 rfl ?_
    refine a_i2l C dX12_room_14 ?_
    refine a_lconst (v := (0 : Int64)) C dX12_room_15 (by decide) ?_
    refine a_lconst (v := (1 : Int64)) C dX12_room_16 (by decide) ?_
    obtain ⟨r15, h13, e14, e⟩ := b2_some e
    refine a_callS (as := [.long x2.toInt64, .long (0 : Int64), .long (1 : Int64)]) (rest := []) C m_X12_in sm_X12_in ml_X12_63 rfl (Nat.le_of_ble_eq_true rfl) (Nat.le_of_ble_eq_true rfl) (Nat.le_of_ble_eq_true rfl) (Nat.le_of_ble_eq_true rfl) (Nat.le_of_ble_eq_true rfl) dX12_room_17 (k_X12_in e14) rfl ?_
    show AW G lo 0 0 20 [(0, .ref (lo + x0)), (1, .int x1), (2, .int x2)] [.int r15] h13
    refine a_if_ne (tgt := 26) C dX12_room_20 (by decide) (fun c21 => ?_) (fun c21 => ?_)
    · have e := iN c21 e
      refine a_iconst (v := (0 : Int32)) C dX12_room_26 (by decide) ?_
      refine a_istore_n (lv2 := [(3, .int (0 : Int32)), (0, .ref (lo + x0)), (1, .int x1), (2, .int x2)]) C dX12_room_27 rfl (by decide) rfl ?_
      refine a_iconst (v := (0 : Int32)) C dX12_room_28 (by decide) ?_
      refine a_istore (lv2 := [(4, .int (0 : Int32)), (3, .int (0 : Int32)), (0, .ref (lo + x0)), (1, .int x1), (2, .int x2)]) C dX12_room_29 (by decide) rfl ?_
      refine a_sub [2, 3, 4, 1, 0] rfl (w_X12_room_L31 C ?_ (Nat.le_of_ble_eq_true rfl) (Nat.le_of_ble_eq_true rfl) 2000 _ _ _ e)
      intro h53 y54 y55 e
      show AW G lo 0 0 87 [(0, .ref (lo + x0)), (1, .int x1), (2, .int x2), (3, .int y54), (4, .int y55)] [] h53
      refine a_iload_n C dX12_room_87 rfl 2 rfl ?_
      obtain ⟨j57, eb59, e⟩ := bA_some e
      have jj58 : AW G lo 0 0 104 [(0, .ref (lo + x0)), (1, .int x1), (2, .int x2), (3, .int y54), (4, .int y55)] [.int j57] h53 := by
        obtain ⟨rfl, rfl⟩ := sp2 e
        exact a_iret C q (Nat.le_of_ble_eq_true rfl) (Nat.le_of_ble_eq_true rfl) dX12_room_104
      have e := eb59
      refine a_if_ne (tgt := 103) C dX12_room_88 (by decide) (fun c56 => ?_) (fun c56 => ?_)
      · have e := iN c56 e
        refine a_iload_n C dX12_room_103 rfl 3 rfl ?_
        obtain rfl := sp1 e
        exact a_widen (Nat.le_of_ble_eq_true rfl) (Nat.le_of_ble_eq_true rfl) (a_sub [0, 1, 2, 3, 4] rfl jj58)
      · have e := ip c56 e
        refine a_aload_n C dX12_room_91 rfl 0 rfl ?_
        obtain ⟨a61, e60, e⟩ := bA_some e
        refine a_getN C cb11 5 (by decide) fl_X12_19 rfl dX12_room_92 e60 ?_
        refine a_bipush (v := (6 : Int32)) C dX12_room_95 (by decide) ?_
        refine a_iload_n C dX12_room_97 rfl 1 rfl ?_
        refine a_iadd C dX12_room_98 ?_
        obtain ⟨v62, e63, e⟩ := bA_some e
        refine a_iald C dX12_room_99 e63 ?_
        refine a_goto (tgt := 104) C dX12_room_100 (by decide) ?_
        obtain rfl := sp1 e
        exact a_widen (Nat.le_of_ble_eq_true rfl) (Nat.le_of_ble_eq_true rfl) (a_sub [0, 1, 2, 3, 4] rfl jj58)
    · have e := ip c21 e
      refine a_ldc C ko_X12_73 dX12_room_23 ?_
      obtain ⟨rfl, rfl⟩ := sp2 e
      exact a_iret C q (Nat.le_of_ble_eq_true rfl) (Nat.le_of_ble_eq_true rfl) dX12_room_25

set_option maxRecDepth 100000 in
def f_X12_would (h : Hp) (x0 : Nat) (x1 : Int32) (x2 : Int32) (x3 : Int32) (x4 : Int32) : Option (Int32 × Hp) := bA (pV h x0 11 0 (.inl (0 : Int32))) fun h2 => bA (isC h2 x0 11) fun u9 => b2 (f_X12_isThere h2 x0 ) fun r5 h3 => (if r5 = 0 then some ((-1000002 : Int32), h3) else b2 (f_X12_isErrand h3 x1 x3) fun r15 h13 => (if r15 = 0 then some ((-1000001 : Int32), h13) else b2 (f_X12_in h13 x4.toInt64 (0 : Int64) (4 : Int64)) fun r24 h22 => (if r24 = 0 then some ((-1000001 : Int32), h22) else bA (isC h22 x0 11) fun u37 => b2 (f_X12_rowFound h22 x0 x1 x2 x3) fun r33 h31 => (if r33 = 0 then bA (isC h31 x0 11) fun u47 => bA (f_X12_layThen h31 x0 ) fun h41 => bA (gN h41 x0 11 7) fun a51 => bA (isC h41 x0 11) fun u58 => b2 (f_X12_goOut h41 x0 a51 x3) fun r54 h52 => (if x4 = (0 : Int32) then bA (gI h52 x0 11 25) fun g64 => bA (if g64 = 0 then some r54 else bA (gI h52 x0 11 25) fun g70 => some ((1000 : Int32) + g70)) fun j66 => some (j66, h52) else (if x4 = (1 : Int32) then bA (gI h52 x0 11 22) fun g73 => some (g73, h52) else (if x4 = (2 : Int32) then bA (gI h52 x0 11 23) fun g76 => some (g76, h52) else (if x4 = (3 : Int32) then bA (gI h52 x0 11 21) fun g79 => some (g79, h52) else bA (gI h52 x0 11 24) fun g81 => some (g81, h52))))) else some (r33, h31)))))

theorem m_X12_would : MI yX12_would cX12_would 7 (some .int) 4 := ⟨co_X12_would, ini_X12, by decide, by decide +kernel⟩
set_option maxRecDepth 100000 in
set_option maxHeartbeats 4000000 in
theorem k_X12_would {lo : Nat} {h : Hp} {x0 : Nat} {x1 : Int32} {x2 : Int32} {x3 : Int32} {x4 : Int32} {r : Int32} {h' : Hp} (e : f_X12_would h x0 x1 x2 x3 x4 = some (r, h')) : ∀ l d, AC l d lo yX12_would cX12_would 7 (some .int) ({ frames := 6, cells := 0, slots := 0, locals := 137 } : Room) [.ref (lo + x0), .int x1, .int x2, .int x3, .int x4] h (some (.int r)) h' := by
  intro l d
  refine AC_of (by decide) (Nat.le_of_ble_eq_true rfl) ?_
  intro G C _ _ q
  unfold f_X12_would at e
  show AW G lo 0 0 0 [(0, .ref (lo + x0)), (1, .int x1), (2, .int x2), (3, .int x3), (4, .int x4)] [] h
  refine a_aload_n C dX12_would_0 rfl 0 rfl ?_
  refine a_iconst (v := (0 : Int32)) C dX12_would_1 (by decide) ?_
  obtain ⟨h2, e1, e⟩ := bA_some e
  refine a_putI C cb11 0 (by decide) fl_X12_53 rfl (by decide +kernel) dX12_would_2 e1 ?_
  refine a_aload_n C dX12_would_5 rfl 0 rfl ?_
  obtain ⟨u9, ec8, e⟩ := bA_some e
  obtain ⟨fs7, eo6⟩ := isC_some ec8
  obtain ⟨r5, h3, e4, e⟩ := b2_some e
  refine a_callV (as := []) (rest := []) C m_X12_isThere im_X12_isThere cb11 se_X12_X12_isThere_X12_isThere ml_X12_216 rfl (Nat.le_of_ble_eq_true rfl) (Nat.le_of_ble_eq_true rfl) (Nat.le_of_ble_eq_true rfl) (Nat.le_of_ble_eq_true rfl) (Nat.le_of_ble_eq_true rfl) dX12_would_6 eo6 (k_X12_isThere e4) rfl ?_
  show AW G lo 0 0 9 [(0, .ref (lo + x0)), (1, .int x1), (2, .int x2), (3, .int x3), (4, .int x4)] [.int r5] h3
  refine a_if_ne (tgt := 15) C dX12_would_9 (by decide) (fun c12 => ?_) (fun c12 => ?_)
  · have e := iN c12 e
    refine a_iload_n C dX12_would_15 rfl 1 rfl ?_
    refine a_iload_n C dX12_would_16 rfl 3 rfl ?_
    obtain ⟨r15, h13, e14, e⟩ := b2_some e
    refine a_callS (as := [.int x1, .int x3]) (rest := []) C m_X12_isErrand sm_X12_isErrand ml_X12_220 rfl (Nat.le_of_ble_eq_true rfl) (Nat.le_of_ble_eq_true rfl) (Nat.le_of_ble_eq_true rfl) (Nat.le_of_ble_eq_true rfl) (Nat.le_of_ble_eq_true rfl) dX12_would_17 (k_X12_isErrand e14) rfl ?_
    show AW G lo 0 0 20 [(0, .ref (lo + x0)), (1, .int x1), (2, .int x2), (3, .int x3), (4, .int x4)] [.int r15] h13
    refine a_if_eq (tgt := 36) C dX12_would_20 (by decide) (fun c21 => ?_) (fun c21 => ?_)
    · have e := ip c21 e
      refine a_ldc C ko_X12_73 dX12_would_36 ?_
      obtain ⟨rfl, rfl⟩ := sp2 e
      exact a_iret C q (Nat.le_of_ble_eq_true rfl) (Nat.le_of_ble_eq_true rfl) dX12_would_38
    · have e := iN c21 e
      refine a_iload C dX12_would_23 4 rfl ?_
      refine a_i2l C dX12_would_25 ?_
      refine a_lconst (v := (0 : Int64)) C dX12_would_26 (by decide) ?_
      refine a_ldc2 C kL_X12_253 dX12_would_27 ?_
      obtain ⟨r24, h22, e23, e⟩ := b2_some e
      refine a_callS (as := [.long x4.toInt64, .long (0 : Int64), .long (4 : Int64)]) (rest := []) C m_X12_in sm_X12_in ml_X12_63 rfl (Nat.le_of_ble_eq_true rfl) (Nat.le_of_ble_eq_true rfl) (Nat.le_of_ble_eq_true rfl) (Nat.le_of_ble_eq_true rfl) (Nat.le_of_ble_eq_true rfl) dX12_would_30 (k_X12_in e23) rfl ?_
      show AW G lo 0 0 33 [(0, .ref (lo + x0)), (1, .int x1), (2, .int x2), (3, .int x3), (4, .int x4)] [.int r24] h22
      refine a_if_ne (tgt := 39) C dX12_would_33 (by decide) (fun c30 => ?_) (fun c30 => ?_)
      · have e := iN c30 e
        refine a_aload_n C dX12_would_39 rfl 0 rfl ?_
        refine a_iload_n C dX12_would_40 rfl 1 rfl ?_
        refine a_iload_n C dX12_would_41 rfl 2 rfl ?_
        refine a_iload_n C dX12_would_42 rfl 3 rfl ?_
        obtain ⟨u37, ec36, e⟩ := bA_some e
        obtain ⟨fs35, eo34⟩ := isC_some ec36
        obtain ⟨r33, h31, e32, e⟩ := b2_some e
        refine a_callV (as := [.int x1, .int x2, .int x3]) (rest := []) C m_X12_rowFound im_X12_rowFound cb11 se_X12_X12_rowFound_X12_rowFound ml_X12_223 rfl (Nat.le_of_ble_eq_true rfl) (Nat.le_of_ble_eq_true rfl) (Nat.le_of_ble_eq_true rfl) (Nat.le_of_ble_eq_true rfl) (Nat.le_of_ble_eq_true rfl) dX12_would_43 eo34 (k_X12_rowFound e32) rfl ?_
        show AW G lo 0 0 46 [(0, .ref (lo + x0)), (1, .int x1), (2, .int x2), (3, .int x3), (4, .int x4)] [.int r33] h31
        refine a_istore (lv2 := [(5, .int r33), (0, .ref (lo + x0)), (1, .int x1), (2, .int x2), (3, .int x3), (4, .int x4)]) C dX12_would_46 (by decide) rfl ?_
        refine a_iload C dX12_would_48 0 rfl ?_
        refine a_if_eq (tgt := 56) C dX12_would_50 (by decide) (fun c40 => ?_) (fun c40 => ?_)
        · have e := ip c40 e
          refine a_aload_n C dX12_would_56 rfl 1 rfl ?_
          obtain ⟨u47, ec46, e⟩ := bA_some e
          obtain ⟨fs45, eo44⟩ := isC_some ec46
          obtain ⟨h41, e42, e⟩ := bA_some e
          refine a_callV (as := []) (rest := []) C m_X12_layThen im_X12_layThen cb11 se_X12_X12_layThen_X12_layThen ml_X12_255 rfl (Nat.le_of_ble_eq_true rfl) (Nat.le_of_ble_eq_true rfl) (Nat.le_of_ble_eq_true rfl) (Nat.le_of_ble_eq_true rfl) (Nat.le_of_ble_eq_true rfl) dX12_would_57 eo44 (k_X12_layThen e42) rfl ?_
          show AW G lo 0 0 60 [(5, .int r33), (0, .ref (lo + x0)), (1, .int x1), (2, .int x2), (3, .int x3), (4, .int x4)] [] h41
          refine a_aload_n C dX12_would_60 rfl 1 rfl ?_
          refine a_aload_n C dX12_would_61 rfl 1 rfl ?_
          obtain ⟨a51, e50, e⟩ := bA_some e
          refine a_getN C cb11 7 (by decide) fl_X12_25 rfl dX12_would_62 e50 ?_
          refine a_iload_n C dX12_would_65 rfl 4 rfl ?_
          obtain ⟨u58, ec57, e⟩ := bA_some e
          obtain ⟨fs56, eo55⟩ := isC_some ec57
          obtain ⟨r54, h52, e53, e⟩ := b2_some e
          refine a_callV (as := [.ref (lo + a51), .int x3]) (rest := []) C m_X12_goOut im_X12_goOut cb11 se_X12_X12_goOut_X12_goOut ml_X12_230 rfl (Nat.le_of_ble_eq_true rfl) (Nat.le_of_ble_eq_true rfl) (Nat.le_of_ble_eq_true rfl) (Nat.le_of_ble_eq_true rfl) (Nat.le_of_ble_eq_true rfl) dX12_would_66 eo55 (k_X12_goOut e53) rfl ?_
          show AW G lo 0 0 69 [(5, .int r33), (0, .ref (lo + x0)), (1, .int x1), (2, .int x2), (3, .int x3), (4, .int x4)] [.int r54] h52
          refine a_istore (lv2 := [(6, .int r54), (5, .int r33), (0, .ref (lo + x0)), (1, .int x1), (2, .int x2), (3, .int x3), (4, .int x4)]) C dX12_would_69 (by decide) rfl ?_
          refine a_iload C dX12_would_71 6 rfl ?_
          have hxx61 : x4 = x4 := rfl
          by_cases c62 : x4 = (0 : Int32)
          · have e := ip c62 e
            refine a_tableIn (tgt := 104) C dX12_would_73 (by rw [c62]; decide) (by rw [c62]; decide) (by rw [c62]; first | done | rfl) (by decide) ?_
            refine a_aload_n C dX12_would_104 rfl 2 rfl ?_
            obtain ⟨g64, e63, e⟩ := bA_some e
            refine a_getI C cb11 25 (by decide) fl_X12_208 rfl dX12_would_105 e63 ?_
            obtain ⟨j66, eb68, e⟩ := bA_some e
            have jj67 : AW G lo 0 0 124 [(0, .ref (lo + x0)), (1, .int x1), (2, .int x2), (3, .int x3), (4, .int x4), (5, .int r33), (6, .int r54)] [.int j66] h52 := by
              obtain ⟨rfl, rfl⟩ := sp2 e
              exact a_iret C q (Nat.le_of_ble_eq_true rfl) (Nat.le_of_ble_eq_true rfl) dX12_would_124
            have e := eb68
            refine a_if_ne (tgt := 116) C dX12_would_108 (by decide) (fun c65 => ?_) (fun c65 => ?_)
            · have e := iN c65 e
              refine a_sipush (v := (1000 : Int32)) C dX12_would_116 (by decide) ?_
              refine a_aload_n C dX12_would_119 rfl 2 rfl ?_
              obtain ⟨g70, e69, e⟩ := bA_some e
              refine a_getI C cb11 25 (by decide) fl_X12_208 rfl dX12_would_120 e69 ?_
              refine a_iadd C dX12_would_123 ?_
              obtain rfl := sp1 e
              exact a_widen (Nat.le_of_ble_eq_true rfl) (Nat.le_of_ble_eq_true rfl) (a_sub [2, 3, 4, 5, 6, 1, 0] rfl jj67)
            · have e := ip c65 e
              refine a_iload C dX12_would_111 0 rfl ?_
              refine a_goto (tgt := 124) C dX12_would_113 (by decide) ?_
              obtain rfl := sp1 e
              exact a_widen (Nat.le_of_ble_eq_true rfl) (Nat.le_of_ble_eq_true rfl) (a_sub [2, 3, 4, 5, 6, 1, 0] rfl jj67)
          have e := iN c62 e
          by_cases c71 : x4 = (1 : Int32)
          · have e := ip c71 e
            refine a_tableIn (tgt := 125) C dX12_would_73 (by rw [c71]; decide) (by rw [c71]; decide) (by rw [c71]; first | done | rfl) (by decide) ?_
            refine a_aload_n C dX12_would_125 rfl 2 rfl ?_
            obtain ⟨g73, e72, e⟩ := bA_some e
            refine a_getI C cb11 22 (by decide) fl_X12_182 rfl dX12_would_126 e72 ?_
            obtain ⟨rfl, rfl⟩ := sp2 e
            exact a_iret C q (Nat.le_of_ble_eq_true rfl) (Nat.le_of_ble_eq_true rfl) dX12_would_129
          have e := iN c71 e
          by_cases c74 : x4 = (2 : Int32)
          · have e := ip c74 e
            refine a_tableIn (tgt := 130) C dX12_would_73 (by rw [c74]; decide) (by rw [c74]; decide) (by rw [c74]; first | done | rfl) (by decide) ?_
            refine a_aload_n C dX12_would_130 rfl 2 rfl ?_
            obtain ⟨g76, e75, e⟩ := bA_some e
            refine a_getI C cb11 23 (by decide) fl_X12_196 rfl dX12_would_131 e75 ?_
            obtain ⟨rfl, rfl⟩ := sp2 e
            exact a_iret C q (Nat.le_of_ble_eq_true rfl) (Nat.le_of_ble_eq_true rfl) dX12_would_134
          have e := iN c74 e
          by_cases c77 : x4 = (3 : Int32)
          · have e := ip c77 e
            refine a_tableIn (tgt := 135) C dX12_would_73 (by rw [c77]; decide) (by rw [c77]; decide) (by rw [c77]; first | done | rfl) (by decide) ?_
            refine a_aload_n C dX12_would_135 rfl 2 rfl ?_
            obtain ⟨g79, e78, e⟩ := bA_some e
            refine a_getI C cb11 21 (by decide) fl_X12_171 rfl dX12_would_136 e78 ?_
            obtain ⟨rfl, rfl⟩ := sp2 e
            exact a_iret C q (Nat.le_of_ble_eq_true rfl) (Nat.le_of_ble_eq_true rfl) dX12_would_139
          have e := iN c77 e
          refine a_tableOut (tgt := 140) C dX12_would_73 (Classical.byContradiction fun hz => ?_) (by decide) ?_
          · have hz2 : x4.toInt = 0 ∨ x4.toInt = 1 ∨ x4.toInt = 2 ∨ x4.toInt = 3 := by omega
            rcases hz2 with hz3 | hz3 | hz3 | hz3
            · exact c62 (Int32.toInt_inj.mp (hz3.trans (by decide)))
            · exact c71 (Int32.toInt_inj.mp (hz3.trans (by decide)))
            · exact c74 (Int32.toInt_inj.mp (hz3.trans (by decide)))
            · exact c77 (Int32.toInt_inj.mp (hz3.trans (by decide)))
          · refine a_aload_n C dX12_would_140 rfl 2 rfl ?_
            obtain ⟨g81, e80, e⟩ := bA_some e
            refine a_getI C cb11 24 (by decide) fl_X12_199 rfl dX12_would_141 e80 ?_
            obtain ⟨rfl, rfl⟩ := sp2 e
            exact a_iret C q (Nat.le_of_ble_eq_true rfl) (Nat.le_of_ble_eq_true rfl) dX12_would_144
        · have e := iN c40 e
          refine a_iload C dX12_would_53 0 rfl ?_
          obtain ⟨rfl, rfl⟩ := sp2 e
          exact a_iret C q (Nat.le_of_ble_eq_true rfl) (Nat.le_of_ble_eq_true rfl) dX12_would_55
      · have e := ip c30 e
        refine a_ldc C ko_X12_73 dX12_would_36 ?_
        obtain ⟨rfl, rfl⟩ := sp2 e
        exact a_iret C q (Nat.le_of_ble_eq_true rfl) (Nat.le_of_ble_eq_true rfl) dX12_would_38
  · have e := ip c12 e
    refine a_ldc C ko_X12_219 dX12_would_12 ?_
    obtain ⟨rfl, rfl⟩ := sp2 e
    exact a_iret C q (Nat.le_of_ble_eq_true rfl) (Nat.le_of_ble_eq_true rfl) dX12_would_14

set_option maxRecDepth 100000 in
def f_X12_isWell (h : Hp) (x0 : Nat) (x1 : Int32) (x2 : Int32) : Option (Int32 × Hp) := bA (isC h x0 11) fun u7 => bA (f_X12_layThen h x0 ) fun h1 => bA (gN h1 x0 11 7) fun a11 => bA (isC h1 x0 11) fun u18 => b2 (f_X12_goOut h1 x0 a11 x1) fun r14 h12 => bA (if r14 ≤ 0 then some (0 : Int32) else bA (gI h12 x0 11 24) fun g26 => (if g26 = x2 then some (1 : Int32) else some (0 : Int32))) fun j22 => bA (bz j22) fun z28 => some (j22, h12)

theorem m_X12_isWell : MI yX12_isWell cX12_isWell 3 (some .boolean) 2 := ⟨co_X12_isWell, ini_X12, by decide, by decide +kernel⟩
set_option maxRecDepth 100000 in
set_option maxHeartbeats 4000000 in
theorem k_X12_isWell {lo : Nat} {h : Hp} {x0 : Nat} {x1 : Int32} {x2 : Int32} {r : Int32} {h' : Hp} (e : f_X12_isWell h x0 x1 x2 = some (r, h')) : ∀ l d, AC l d lo yX12_isWell cX12_isWell 3 (some .boolean) ({ frames := 6, cells := 0, slots := 0, locals := 137 } : Room) [.ref (lo + x0), .int x1, .int x2] h (some (.int r)) h' := by
  intro l d
  refine AC_of (by decide) (Nat.le_of_ble_eq_true rfl) ?_
  intro G C _ _ q
  unfold f_X12_isWell at e
  show AW G lo 0 0 0 [(0, .ref (lo + x0)), (1, .int x1), (2, .int x2)] [] h
  refine a_aload_n C dX12_isWell_0 rfl 0 rfl ?_
  obtain ⟨u7, ec6, e⟩ := bA_some e
  obtain ⟨fs5, eo4⟩ := isC_some ec6
  obtain ⟨h1, e2, e⟩ := bA_some e
  refine a_callV (as := []) (rest := []) C m_X12_layThen im_X12_layThen cb11 se_X12_X12_layThen_X12_layThen ml_X12_255 rfl (Nat.le_of_ble_eq_true rfl) (Nat.le_of_ble_eq_true rfl) (Nat.le_of_ble_eq_true rfl) (Nat.le_of_ble_eq_true rfl) (Nat.le_of_ble_eq_true rfl) dX12_isWell_1 eo4 (k_X12_layThen e2) rfl ?_
  show AW G lo 0 0 4 [(0, .ref (lo + x0)), (1, .int x1), (2, .int x2)] [] h1
  refine a_aload_n C dX12_isWell_4 rfl 0 rfl ?_
  refine a_aload_n C dX12_isWell_5 rfl 0 rfl ?_
  obtain ⟨a11, e10, e⟩ := bA_some e
  refine a_getN C cb11 7 (by decide) fl_X12_25 rfl dX12_isWell_6 e10 ?_
  refine a_iload_n C dX12_isWell_9 rfl 1 rfl ?_
  obtain ⟨u18, ec17, e⟩ := bA_some e
  obtain ⟨fs16, eo15⟩ := isC_some ec17
  obtain ⟨r14, h12, e13, e⟩ := b2_some e
  refine a_callV (as := [.ref (lo + a11), .int x1]) (rest := []) C m_X12_goOut im_X12_goOut cb11 se_X12_X12_goOut_X12_goOut ml_X12_230 rfl (Nat.le_of_ble_eq_true rfl) (Nat.le_of_ble_eq_true rfl) (Nat.le_of_ble_eq_true rfl) (Nat.le_of_ble_eq_true rfl) (Nat.le_of_ble_eq_true rfl) dX12_isWell_10 eo15 (k_X12_goOut e13) rfl ?_
  show AW G lo 0 0 13 [(0, .ref (lo + x0)), (1, .int x1), (2, .int x2)] [.int r14] h12
  obtain ⟨j22, eb24, e⟩ := bA_some e
  have jj23 : AW G lo 0 0 29 [(0, .ref (lo + x0)), (1, .int x1), (2, .int x2)] [.int j22] h12 := by
    obtain ⟨z28, e29, e⟩ := bA_some e
    obtain ⟨rfl, rfl⟩ := sp2 e
    exact a_zret C q (bz_some e29) (Nat.le_of_ble_eq_true rfl) (Nat.le_of_ble_eq_true rfl) dX12_isWell_29
  have e := eb24
  refine a_if_le (tgt := 28) C dX12_isWell_13 (by decide) (fun c21 => ?_) (fun c21 => ?_)
  · have e := ip c21 e
    refine a_iconst (v := (0 : Int32)) C dX12_isWell_28 (by decide) ?_
    obtain rfl := sp1 e
    exact a_widen (Nat.le_of_ble_eq_true rfl) (Nat.le_of_ble_eq_true rfl) (a_sub [0, 1, 2] rfl jj23)
  · have e := iN c21 e
    refine a_aload_n C dX12_isWell_16 rfl 0 rfl ?_
    obtain ⟨g26, e25, e⟩ := bA_some e
    refine a_getI C cb11 24 (by decide) fl_X12_199 rfl dX12_isWell_17 e25 ?_
    refine a_iload_n C dX12_isWell_20 rfl 2 rfl ?_
    refine a_icmp_ne (tgt := 28) C dX12_isWell_21 (by decide) (fun c27 => ?_) (fun c27 => ?_)
    · have e := iN c27 e
      refine a_iconst (v := (0 : Int32)) C dX12_isWell_28 (by decide) ?_
      obtain rfl := sp1 e
      exact a_widen (Nat.le_of_ble_eq_true rfl) (Nat.le_of_ble_eq_true rfl) (a_sub [0, 1, 2] rfl jj23)
    · have e := ip c27 e
      refine a_iconst (v := (1 : Int32)) C dX12_isWell_24 (by decide) ?_
      refine a_goto (tgt := 29) C dX12_isWell_25 (by decide) ?_
      obtain rfl := sp1 e
      exact a_widen (Nat.le_of_ble_eq_true rfl) (Nat.le_of_ble_eq_true rfl) (a_sub [0, 1, 2] rfl jj23)

set_option maxRecDepth 100000 in
def f_X12_way_L51 {β : Type} (k : Int32 → Int32 → Hp → Option (β)) (x0 : Nat) (x1 : Int32) (x2 : Int32) (x3 : Int32) (x4 : Int32) (x5 : Int32) : Nat → Hp → Int32 → Int32 → Option (β)
  | 0, _, _, _ => none
  | fuel + 1, h, x6, x7 => (if x7 < 0 then k x6 x7 h else bA (gN h x0 11 19) fun a18 => bA (gN h x0 11 5) fun a20 => bA (ald h a20 0 (0 : Int32)) fun v21 => bA (nzI v21) fun u24 => bA (ast h a18 0 x7 (x6 - x6 / v21 * v21)) fun h25 => bA (gN h25 x0 11 5) fun a28 => bA (ald h25 a28 0 (0 : Int32)) fun v29 => bA (nzI v29) fun u32 => f_X12_way_L51 k x0 x1 x2 x3 x4 x5 fuel h25 (x6 / v29) (x7 + (-1 : Int32)))

set_option maxRecDepth 100000 in
def f_X12_way_L35 (k : Int32 → Hp → Option (Int32 × Hp)) (x0 : Nat) (x1 : Int32) (x2 : Int32) (x3 : Int32) (x4 : Int32) : Nat → Hp → Int32 → Option (Int32 × Hp)
  | 0, _, _ => none
  | fuel + 1, h, x5 => (if x3 ≤ x5 then k x5 h else f_X12_way_L51 (fun y34 y35 h33 => bA (isC h33 x0 11) fun u42 => b2 (f_X12_isWell h33 x0 x4 x1) fun r38 h36 => (if r38 = 0 then f_X12_way_L35 k x0 x1 x2 x3 x4 fuel h36 (x5 + (1 : Int32)) else bA (if x2 = (-1 : Int32) then some x4 else (if x4 ≤ x2 then some (-1000000 : Int32) else bA (gN h36 x0 11 19) fun a52 => bA (ald h36 a52 0 x2) fun v53 => some v53)) fun j47 => some (j47, h36))) x0 x1 x2 x3 x4 x5 2000 h x5 (x4 - (1 : Int32)))

set_option maxRecDepth 100000 in
def f_X12_way_L26 (k : Int32 → Int32 → Hp → Option (Int32 × Hp)) (x0 : Nat) (x1 : Int32) (x2 : Int32) : Nat → Hp → Int32 → Int32 → Option (Int32 × Hp)
  | 0, _, _, _ => none
  | fuel + 1, h, x3, x4 => (if (3 : Int32) < x4 then k x3 x4 h else f_X12_way_L35 (fun y56 h55 => bA (gN h55 x0 11 5) fun a58 => bA (ald h55 a58 0 (0 : Int32)) fun v59 => f_X12_way_L26 k x0 x1 x2 fuel h55 (x3 * v59) (x4 + (1 : Int32))) x0 x1 x2 x3 x4 2000 h (0 : Int32))

set_option maxRecDepth 100000 in
def f_X12_way (h : Hp) (x0 : Nat) (x1 : Int32) (x2 : Int32) : Option (Int32 × Hp) := bA (pV h x0 11 0 (.inl (0 : Int32))) fun h2 => bA (isC h2 x0 11) fun u9 => b2 (f_X12_isRoom h2 x0 x1) fun r5 h3 => (if r5 = 0 then some ((-1000001 : Int32), h3) else (if (-1 : Int32) ≤ x2 then f_X12_way_L26 (fun y62 y63 h61 => some ((-1000000 : Int32), h61)) x0 x1 x2 2000 h3 (1 : Int32) (0 : Int32) else some ((-1000001 : Int32), h3)))

theorem m_X12_way : MI yX12_way cX12_way 8 (some .int) 2 := ⟨co_X12_way, ini_X12, by decide, by decide +kernel⟩
set_option maxRecDepth 100000 in
set_option maxHeartbeats 4000000 in
theorem w_X12_way_L51 {G : Gm} {lo : Nat} {ce sl : Nat} (C : CX G lo cX12_way RX12 (some .int) ({ frames := 7, cells := 0, slots := 0, locals := 159 } : Room) 8) {β : Type} {res : β} {k : Int32 → Int32 → Hp → Option (β)} {x0 : Nat} {x1 : Int32} {x2 : Int32} {x3 : Int32} {x4 : Int32} {x5 : Int32} (hk : ∀ (h : Hp) (x6 : Int32) (x7 : Int32), k x6 x7 h = some res → AW G lo ce sl 89 [(0, .ref (lo + x0)), (1, .int x1), (2, .int x2), (3, .int x3), (4, .int x4), (5, .int x5), (6, .int x6), (7, .int x7)] [] h) (hce : ce ≤ 0) (hsl : sl ≤ 0) : ∀ (fuel : Nat) (h : Hp) (x6 : Int32) (x7 : Int32), f_X12_way_L51 k x0 x1 x2 x3 x4 x5 fuel h x6 x7 = some res → AW G lo ce sl 51 [(0, .ref (lo + x0)), (1, .int x1), (2, .int x2), (3, .int x3), (4, .int x4), (5, .int x5), (6, .int x6), (7, .int x7)] [] h := by
  intro fuel
  induction fuel with
  | zero =>
    intro h x6 x7 e
    cases (show (none : Option (β)) = some res from e)
  | succ fuel ih =>
    intro h x6 x7 e
    rw [f_X12_way_L51] at e
    refine a_iload C dX12_way_51 7 rfl ?_
    refine a_if_lt (tgt := 89) C dX12_way_53 (by decide) (fun c16 => ?_) (fun c16 => ?_)
    · have e := ip c16 e
      exact a_sub [0, 1, 2, 3, 4, 5, 6, 7] rfl (hk _ _ _ e)
    · have e := iN c16 e
      refine a_aload_n C dX12_way_56 rfl 0 rfl ?_
      obtain ⟨a18, e17, e⟩ := bA_some e
      refine a_getN C cb11 19 (by decide) fl_X12_34 rfl dX12_way_57 e17 ?_
      refine a_iload C dX12_way_60 7 rfl ?_
      refine a_iload C dX12_way_62 6 rfl ?_
      refine a_aload_n C dX12_way_64 rfl 0 rfl ?_
      obtain ⟨a20, e19, e⟩ := bA_some e
      refine a_getN C cb11 5 (by decide) fl_X12_19 rfl dX12_way_65 e19 ?_
      refine a_iconst (v := (0 : Int32)) C dX12_way_68 (by decide) ?_
      obtain ⟨v21, e22, e⟩ := bA_some e
      refine a_iald C dX12_way_69 e22 ?_
      obtain ⟨u24, ez23, e⟩ := bA_some e
      refine a_irem C dX12_way_70 (nzI_some ez23) ?_
      obtain ⟨h25, e26, e⟩ := bA_some e
      refine a_iast C dX12_way_71 e26 ?_
      refine a_iload C dX12_way_72 6 rfl ?_
      refine a_aload_n C dX12_way_74 rfl 0 rfl ?_
      obtain ⟨a28, e27, e⟩ := bA_some e
      refine a_getN C cb11 5 (by decide) fl_X12_19 rfl dX12_way_75 e27 ?_
      refine a_iconst (v := (0 : Int32)) C dX12_way_78 (by decide) ?_
      obtain ⟨v29, e30, e⟩ := bA_some e
      refine a_iald C dX12_way_79 e30 ?_
      obtain ⟨u32, ez31, e⟩ := bA_some e
      refine a_idiv C dX12_way_80 (nzI_some ez31) ?_
      refine a_istore (lv2 := [(6, .int (x6 / v29)), (0, .ref (lo + x0)), (1, .int x1), (2, .int x2), (3, .int x3), (4, .int x4), (5, .int x5), (7, .int x7)]) C dX12_way_81 (by decide) rfl ?_
      refine a_iinc (v := x7 + (-1 : Int32)) (lv2 := [(7, .int (x7 + (-1 : Int32))), (6, .int (x6 / v29)), (0, .ref (lo + x0)), (1, .int x1), (2, .int x2), (3, .int x3), (4, .int x4), (5, .int x5)]) C dX12_way_83 7 rfl rfl (by decide) rfl ?_
      refine a_goto (tgt := 51) C dX12_way_86 (by decide) ?_
      exact a_sub [2, 3, 4, 5, 6, 7, 1, 0] rfl (ih _ _ _ e)
set_option maxRecDepth 100000 in
set_option maxHeartbeats 4000000 in
theorem w_X12_way_L35 {G : Gm} {lo : Nat} {ce sl : Nat} (C : CX G lo cX12_way RX12 (some .int) ({ frames := 7, cells := 0, slots := 0, locals := 159 } : Room) 8) {r : Int32} {h' : Hp} {k : Int32 → Hp → Option (Int32 × Hp)} {x0 : Nat} {x1 : Int32} {x2 : Int32} {x3 : Int32} {x4 : Int32} (q : RQ G lo (some (.int r)) h' 0 0) (hk : ∀ (h : Hp) (x5 : Int32), k x5 h = some (r, h') → AW G lo ce sl 133 [(0, .ref (lo + x0)), (1, .int x1), (2, .int x2), (3, .int x3), (4, .int x4), (5, .int x5)] [] h) (hce : ce ≤ 0) (hsl : sl ≤ 0) : ∀ (fuel : Nat) (h : Hp) (x5 : Int32), f_X12_way_L35 k x0 x1 x2 x3 x4 fuel h x5 = some (r, h') → AW G lo ce sl 35 [(0, .ref (lo + x0)), (1, .int x1), (2, .int x2), (3, .int x3), (4, .int x4), (5, .int x5)] [] h := by
  intro fuel
  induction fuel with
  | zero =>
    intro h x5 e
    cases (show (none : Option (Int32 × Hp)) = some (r, h') from e)
  | succ fuel ih =>
    intro h x5 e
    rw [f_X12_way_L35] at e
    refine a_iload C dX12_way_35 5 rfl ?_
    refine a_iload_n C dX12_way_37 rfl 3 rfl ?_
    refine a_icmp_ge (tgt := 133) C dX12_way_38 (by decide) (fun c15 => ?_) (fun c15 => ?_)
    · have e := ip c15 e
      exact a_sub [0, 1, 2, 3, 4, 5] rfl (hk _ _ e)
    · have e := iN c15 e
      refine a_iload C dX12_way_41 5 rfl ?_
      refine a_istore (lv2 := [(6, .int x5), (0, .ref (lo + x0)), (1, .int x1), (2, .int x2), (3, .int x3), (4, .int x4), (5, .int x5)]) C dX12_way_43 (by decide) rfl ?_
      refine a_iload C dX12_way_45 5 rfl ?_
      refine a_iconst (v := (1 : Int32)) C dX12_way_47 (by decide) ?_
      refine a_isub C dX12_way_48 ?_
      refine a_istore (lv2 := [(7, .int (x4 - (1 : Int32))), (6, .int x5), (0, .ref (lo + x0)), (1, .int x1), (2, .int x2), (3, .int x3), (4, .int x4), (5, .int x5)]) C dX12_way_49 (by decide) rfl ?_
      refine a_sub [2, 3, 4, 5, 6, 7, 1, 0] rfl (w_X12_way_L51 C ?_ (by exact hce) (by exact hsl) 2000 _ _ _ e)
      intro h33 y34 y35 e
      show AW G lo ce sl 89 [(0, .ref (lo + x0)), (1, .int x1), (2, .int x2), (3, .int x3), (4, .int x4), (5, .int x5), (6, .int y34), (7, .int y35)] [] h33
      refine a_aload_n C dX12_way_89 rfl 0 rfl ?_
      refine a_iload C dX12_way_90 4 rfl ?_
      refine a_iload_n C dX12_way_92 rfl 1 rfl ?_
      obtain ⟨u42, ec41, e⟩ := bA_some e
      obtain ⟨fs40, eo39⟩ := isC_some ec41
      obtain ⟨r38, h36, e37, e⟩ := b2_some e
      refine a_callV (as := [.int x4, .int x1]) (rest := []) C m_X12_isWell im_X12_isWell cb11 se_X12_X12_isWell_X12_isWell ml_X12_258 rfl (Nat.le_of_ble_eq_true rfl) (Nat.le_of_ble_eq_true rfl) (by exact hce) (by exact hsl) (Nat.le_of_ble_eq_true rfl) dX12_way_93 eo39 (k_X12_isWell e37) rfl ?_
      show AW G lo ce sl 96 [(0, .ref (lo + x0)), (1, .int x1), (2, .int x2), (3, .int x3), (4, .int x4), (5, .int x5), (6, .int y34), (7, .int y35)] [.int r38] h36
      refine a_if_eq (tgt := 127) C dX12_way_96 (by decide) (fun c45 => ?_) (fun c45 => ?_)
      · have e := ip c45 e
        refine a_iinc (v := x5 + (1 : Int32)) (lv2 := [(5, .int (x5 + (1 : Int32))), (0, .ref (lo + x0)), (1, .int x1), (2, .int x2), (3, .int x3), (4, .int x4), (6, .int y34), (7, .int y35)]) C dX12_way_127 5 rfl rfl (by decide) rfl ?_
        refine a_goto (tgt := 35) C dX12_way_130 (by decide) ?_
        exact a_sub [1, 2, 3, 4, 5, 0] rfl (ih _ _ e)
      · have e := iN c45 e
        refine a_iload_n C dX12_way_99 rfl 2 rfl ?_
        refine a_iconst (v := (-1 : Int32)) C dX12_way_100 (by decide) ?_
        obtain ⟨j47, eb49, e⟩ := bA_some e
        have jj48 : AW G lo ce sl 126 [(0, .ref (lo + x0)), (1, .int x1), (2, .int x2), (3, .int x3), (4, .int x4), (5, .int x5), (6, .int y34), (7, .int y35)] [.int j47] h36 := by
          obtain ⟨rfl, rfl⟩ := sp2 e
          exact a_iret C q (by exact hce) (by exact hsl) dX12_way_126
        have e := eb49
        refine a_icmp_ne (tgt := 109) C dX12_way_101 (by decide) (fun c46 => ?_) (fun c46 => ?_)
        · have e := iN c46 e
          refine a_iload_n C dX12_way_109 rfl 2 rfl ?_
          refine a_iload C dX12_way_110 4 rfl ?_
          refine a_icmp_ge (tgt := 124) C dX12_way_112 (by decide) (fun c50 => ?_) (fun c50 => ?_)
          · have e := ip c50 e
            refine a_ldc C ko_X12_96 dX12_way_124 ?_
            obtain rfl := sp1 e
            exact a_widen (Nat.le_refl _) (Nat.le_refl _) (a_sub [0, 1, 2, 3, 4, 5, 6, 7] rfl jj48)
          · have e := iN c50 e
            refine a_aload_n C dX12_way_115 rfl 0 rfl ?_
            obtain ⟨a52, e51, e⟩ := bA_some e
            refine a_getN C cb11 19 (by decide) fl_X12_34 rfl dX12_way_116 e51 ?_
            refine a_iload_n C dX12_way_119 rfl 2 rfl ?_
            obtain ⟨v53, e54, e⟩ := bA_some e
            refine a_iald C dX12_way_120 e54 ?_
            refine a_goto (tgt := 126) C dX12_way_121 (by decide) ?_
            obtain rfl := sp1 e
            exact a_widen (Nat.le_refl _) (Nat.le_refl _) (a_sub [0, 1, 2, 3, 4, 5, 6, 7] rfl jj48)
        · have e := ip c46 e
          refine a_iload C dX12_way_104 4 rfl ?_
          refine a_goto (tgt := 126) C dX12_way_106 (by decide) ?_
          obtain rfl := sp1 e
          exact a_widen (Nat.le_refl _) (Nat.le_refl _) (a_sub [0, 1, 2, 3, 4, 5, 6, 7] rfl jj48)
set_option maxRecDepth 100000 in
set_option maxHeartbeats 4000000 in
theorem w_X12_way_L26 {G : Gm} {lo : Nat} {ce sl : Nat} (C : CX G lo cX12_way RX12 (some .int) ({ frames := 7, cells := 0, slots := 0, locals := 159 } : Room) 8) {r : Int32} {h' : Hp} {k : Int32 → Int32 → Hp → Option (Int32 × Hp)} {x0 : Nat} {x1 : Int32} {x2 : Int32} (q : RQ G lo (some (.int r)) h' 0 0) (hk : ∀ (h : Hp) (x3 : Int32) (x4 : Int32), k x3 x4 h = some (r, h') → AW G lo ce sl 148 [(0, .ref (lo + x0)), (1, .int x1), (2, .int x2), (3, .int x3), (4, .int x4)] [] h) (hce : ce ≤ 0) (hsl : sl ≤ 0) : ∀ (fuel : Nat) (h : Hp) (x3 : Int32) (x4 : Int32), f_X12_way_L26 k x0 x1 x2 fuel h x3 x4 = some (r, h') → AW G lo ce sl 26 [(0, .ref (lo + x0)), (1, .int x1), (2, .int x2), (3, .int x3), (4, .int x4)] [] h := by
  intro fuel
  induction fuel with
  | zero =>
    intro h x3 x4 e
    cases (show (none : Option (Int32 × Hp)) = some (r, h') from e)
  | succ fuel ih =>
    intro h x3 x4 e
    rw [f_X12_way_L26] at e
    refine a_iload C dX12_way_26 4 rfl ?_
    refine a_iconst (v := (3 : Int32)) C dX12_way_28 (by decide) ?_
    refine a_icmp_gt (tgt := 148) C dX12_way_29 (by decide) (fun c14 => ?_) (fun c14 => ?_)
    · have e := ip c14 e
      exact a_sub [0, 1, 2, 3, 4] rfl (hk _ _ _ e)
    · have e := iN c14 e
      refine a_iconst (v := (0 : Int32)) C dX12_way_32 (by decide) ?_
      refine a_istore (lv2 := [(5, .int (0 : Int32)), (0, .ref (lo + x0)), (1, .int x1), (2, .int x2), (3, .int x3), (4, .int x4)]) C dX12_way_33 (by decide) rfl ?_
      refine a_sub [1, 2, 3, 4, 5, 0] rfl (w_X12_way_L35 C q ?_ (by exact hce) (by exact hsl) 2000 _ _ e)
      intro h55 y56 e
      show AW G lo ce sl 133 [(0, .ref (lo + x0)), (1, .int x1), (2, .int x2), (3, .int x3), (4, .int x4), (5, .int y56)] [] h55
      refine a_iload_n C dX12_way_133 rfl 3 rfl ?_
      refine a_aload_n C dX12_way_134 rfl 0 rfl ?_
      obtain ⟨a58, e57, e⟩ := bA_some e
      refine a_getN C cb11 5 (by decide) fl_X12_19 rfl dX12_way_135 e57 ?_
      refine a_iconst (v := (0 : Int32)) C dX12_way_138 (by decide) ?_
      obtain ⟨v59, e60, e⟩ := bA_some e
      refine a_iald C dX12_way_139 e60 ?_
      refine a_imul C dX12_way_140 ?_
      refine a_istore_n (lv2 := [(3, .int (x3 * v59)), (0, .ref (lo + x0)), (1, .int x1), (2, .int x2), (4, .int x4), (5, .int y56)]) C dX12_way_141 rfl (by decide) rfl ?_
      refine a_iinc (v := x4 + (1 : Int32)) (lv2 := [(4, .int (x4 + (1 : Int32))), (3, .int (x3 * v59)), (0, .ref (lo + x0)), (1, .int x1), (2, .int x2), (5, .int y56)]) C dX12_way_142 4 rfl rfl (by decide) rfl ?_
      refine a_goto (tgt := 26) C dX12_way_145 (by decide) ?_
      exact a_sub [2, 3, 4, 1, 0] rfl (ih _ _ _ e)
set_option maxRecDepth 100000 in
set_option maxHeartbeats 4000000 in
theorem k_X12_way {lo : Nat} {h : Hp} {x0 : Nat} {x1 : Int32} {x2 : Int32} {r : Int32} {h' : Hp} (e : f_X12_way h x0 x1 x2 = some (r, h')) : ∀ l d, AC l d lo yX12_way cX12_way 8 (some .int) ({ frames := 7, cells := 0, slots := 0, locals := 159 } : Room) [.ref (lo + x0), .int x1, .int x2] h (some (.int r)) h' := by
  intro l d
  refine AC_of (by decide) (Nat.le_of_ble_eq_true rfl) ?_
  intro G C _ _ q
  unfold f_X12_way at e
  show AW G lo 0 0 0 [(0, .ref (lo + x0)), (1, .int x1), (2, .int x2)] [] h
  refine a_aload_n C dX12_way_0 rfl 0 rfl ?_
  refine a_iconst (v := (0 : Int32)) C dX12_way_1 (by decide) ?_
  obtain ⟨h2, e1, e⟩ := bA_some e
  refine a_putI C cb11 0 (by decide) fl_X12_53 rfl (by decide +kernel) dX12_way_2 e1 ?_
  refine a_aload_n C dX12_way_5 rfl 0 rfl ?_
  refine a_iload_n C dX12_way_6 rfl 1 rfl ?_
  obtain ⟨u9, ec8, e⟩ := bA_some e
  obtain ⟨fs7, eo6⟩ := isC_some ec8
  obtain ⟨r5, h3, e4, e⟩ := b2_some e
  refine a_callV (as := [.int x1]) (rest := []) C m_X12_isRoom im_X12_isRoom cb11 se_X12_X12_isRoom_X12_isRoom ml_X12_239 rfl (Nat.le_of_ble_eq_true rfl) (Nat.le_of_ble_eq_true rfl) (Nat.le_of_ble_eq_true rfl) (Nat.le_of_ble_eq_true rfl) (Nat.le_of_ble_eq_true rfl) dX12_way_7 eo6 (k_X12_isRoom e4) rfl ?_
  show AW G lo 0 0 10 [(0, .ref (lo + x0)), (1, .int x1), (2, .int x2)] [.int r5] h3
  refine a_if_eq (tgt := 18) C dX12_way_10 (by decide) (fun c12 => ?_) (fun c12 => ?_)
  · have e := ip c12 e
    refine a_ldc C ko_X12_73 dX12_way_18 ?_
    obtain ⟨rfl, rfl⟩ := sp2 e
    exact a_iret C q (Nat.le_of_ble_eq_true rfl) (Nat.le_of_ble_eq_true rfl) dX12_way_20
  · have e := iN c12 e
    refine a_iload_n C dX12_way_13 rfl 2 rfl ?_
    refine a_iconst (v := (-1 : Int32)) C dX12_way_14 (by decide) ?_
    refine a_icmp_ge (tgt := 21) C dX12_way_15 (by decide) (fun c13 => ?_) (fun c13 => ?_)
    · have e := ip c13 e
      refine a_iconst (v := (1 : Int32)) C dX12_way_21 (by decide) ?_
      refine a_istore_n (lv2 := [(3, .int (1 : Int32)), (0, .ref (lo + x0)), (1, .int x1), (2, .int x2)]) C dX12_way_22 rfl (by decide) rfl ?_
      refine a_iconst (v := (0 : Int32)) C dX12_way_23 (by decide) ?_
      refine a_istore (lv2 := [(4, .int (0 : Int32)), (3, .int (1 : Int32)), (0, .ref (lo + x0)), (1, .int x1), (2, .int x2)]) C dX12_way_24 (by decide) rfl ?_
      refine a_sub [2, 3, 4, 1, 0] rfl (w_X12_way_L26 C q ?_ (Nat.le_of_ble_eq_true rfl) (Nat.le_of_ble_eq_true rfl) 2000 _ _ _ e)
      intro h61 y62 y63 e
      show AW G lo 0 0 148 [(0, .ref (lo + x0)), (1, .int x1), (2, .int x2), (3, .int y62), (4, .int y63)] [] h61
      refine a_ldc C ko_X12_96 dX12_way_148 ?_
      obtain ⟨rfl, rfl⟩ := sp2 e
      exact a_iret C q (Nat.le_of_ble_eq_true rfl) (Nat.le_of_ble_eq_true rfl) dX12_way_150
    · have e := iN c13 e
      refine a_ldc C ko_X12_73 dX12_way_18 ?_
      obtain ⟨rfl, rfl⟩ := sp2 e
      exact a_iret C q (Nat.le_of_ble_eq_true rfl) (Nat.le_of_ble_eq_true rfl) dX12_way_20

set_option maxRecDepth 100000 in
def f_X12_keysFor_L6 {β : Type} (k : Int32 → Int32 → Hp → Option (β)) (x0 : Nat) (x1 : Int32) (x2 : Int32) : Nat → Hp → Int32 → Int32 → Option (β)
  | 0, _, _, _ => none
  | fuel + 1, h, x3, x4 => (if (64 : Int32) ≤ x4 then k x3 x4 h else b2 (if x3 = (-1000000 : Int32) then bA (isC h x0 11) fun u13 => bA (f_X12_layThen h x0 ) fun h7 => bA (gN h7 x0 11 7) fun a17 => bA (ast h7 a17 0 (4 : Int32) x4) fun h18 => bA (gN h18 x0 11 7) fun a21 => bA (isC h18 x0 11) fun u28 => b2 (f_X12_goOut h18 x0 a21 x1) fun r24 h22 => bA (if r24 ≤ 0 then some x3 else some x4) fun j32 => some (j32, h22) else b2 (f_X12_bits h x4) fun r37 h35 => b2 (f_X12_bits h35 x3) fun r45 h43 => (if r45 ≤ r37 then some (x3, h43) else bA (isC h43 x0 11) fun u58 => bA (f_X12_layThen h43 x0 ) fun h52 => bA (gN h52 x0 11 7) fun a62 => bA (ast h52 a62 0 (4 : Int32) x4) fun h63 => bA (gN h63 x0 11 7) fun a66 => bA (isC h63 x0 11) fun u73 => b2 (f_X12_goOut h63 x0 a66 x1) fun r69 h67 => bA (if r69 ≤ 0 then some x3 else some x4) fun j77 => some (j77, h67))) fun j3 h4 => f_X12_keysFor_L6 k x0 x1 x2 fuel h4 j3 (x4 + (1 : Int32)))

set_option maxRecDepth 100000 in
def f_X12_keysFor (h : Hp) (x0 : Nat) (x1 : Int32) (x2 : Int32) : Option (Int32 × Hp) := f_X12_keysFor_L6 (fun y81 y82 h80 => b2 (if y81 = (-1000000 : Int32) then some (y81, h80) else (if x2 = (1 : Int32) then some (y81, h80) else b2 (f_X12_bits h80 y81) fun r91 h89 => some (r91, h89))) fun j84 h85 => some (j84, h85)) x0 x1 x2 2000 h (-1000000 : Int32) (0 : Int32)

theorem m_X12_keysFor : MI yX12_keysFor cX12_keysFor 5 (some .int) 2 := ⟨co_X12_keysFor, ini_X12, by decide, by decide +kernel⟩
set_option maxRecDepth 100000 in
set_option maxHeartbeats 4000000 in
theorem w_X12_keysFor_L6 {G : Gm} {lo : Nat} {ce sl : Nat} (C : CX G lo cX12_keysFor RX12 (some .int) ({ frames := 6, cells := 0, slots := 0, locals := 137 } : Room) 5) {β : Type} {res : β} {k : Int32 → Int32 → Hp → Option (β)} {x0 : Nat} {x1 : Int32} {x2 : Int32} (hk : ∀ (h : Hp) (x3 : Int32) (x4 : Int32), k x3 x4 h = some res → AW G lo ce sl 68 [(0, .ref (lo + x0)), (1, .int x1), (2, .int x2), (3, .int x3), (4, .int x4)] [] h) (hce : ce ≤ 0) (hsl : sl ≤ 0) : ∀ (fuel : Nat) (h : Hp) (x3 : Int32) (x4 : Int32), f_X12_keysFor_L6 k x0 x1 x2 fuel h x3 x4 = some res → AW G lo ce sl 6 [(0, .ref (lo + x0)), (1, .int x1), (2, .int x2), (3, .int x3), (4, .int x4)] [] h := by
  intro fuel
  induction fuel with
  | zero =>
    intro h x3 x4 e
    cases (show (none : Option (β)) = some res from e)
  | succ fuel ih =>
    intro h x3 x4 e
    rw [f_X12_keysFor_L6] at e
    refine a_iload C dX12_keysFor_6 4 rfl ?_
    refine a_bipush (v := (64 : Int32)) C dX12_keysFor_8 (by decide) ?_
    refine a_icmp_ge (tgt := 68) C dX12_keysFor_10 (by decide) (fun c1 => ?_) (fun c1 => ?_)
    · have e := ip c1 e
      exact a_sub [0, 1, 2, 3, 4] rfl (hk _ _ _ e)
    · have e := iN c1 e
      refine a_iload_n C dX12_keysFor_13 rfl 3 rfl ?_
      refine a_ldc C ko_X12_96 dX12_keysFor_14 ?_
      obtain ⟨j3, h4, eb6, e⟩ := b2_some e
      have jj5 : AW G lo ce sl 62 [(0, .ref (lo + x0)), (1, .int x1), (2, .int x2), (3, .int j3), (4, .int x4)] [] h4 := by
        refine a_iinc (v := x4 + (1 : Int32)) (lv2 := [(4, .int (x4 + (1 : Int32))), (0, .ref (lo + x0)), (1, .int x1), (2, .int x2), (3, .int j3)]) C dX12_keysFor_62 4 rfl rfl (by decide) rfl ?_
        refine a_goto (tgt := 6) C dX12_keysFor_65 (by decide) ?_
        exact a_sub [1, 2, 3, 4, 0] rfl (ih _ _ _ e)
      have e := eb6
      refine a_icmp_eq (tgt := 31) C dX12_keysFor_16 (by decide) (fun c2 => ?_) (fun c2 => ?_)
      · have e := ip c2 e
        refine a_aload_n C dX12_keysFor_31 rfl 0 rfl ?_
        obtain ⟨u13, ec12, e⟩ := bA_some e
        obtain ⟨fs11, eo10⟩ := isC_some ec12
        obtain ⟨h7, e8, e⟩ := bA_some e
        refine a_callV (as := []) (rest := []) C m_X12_layThen im_X12_layThen cb11 se_X12_X12_layThen_X12_layThen ml_X12_255 rfl (Nat.le_of_ble_eq_true rfl) (Nat.le_of_ble_eq_true rfl) (by exact hce) (by exact hsl) (Nat.le_of_ble_eq_true rfl) dX12_keysFor_32 eo10 (k_X12_layThen e8) rfl ?_
        show AW G lo ce sl 35 [(0, .ref (lo + x0)), (1, .int x1), (2, .int x2), (3, .int x3), (4, .int x4)] [] h7
        refine a_aload_n C dX12_keysFor_35 rfl 0 rfl ?_
        obtain ⟨a17, e16, e⟩ := bA_some e
        refine a_getN C cb11 7 (by decide) fl_X12_25 rfl dX12_keysFor_36 e16 ?_
        refine a_iconst (v := (4 : Int32)) C dX12_keysFor_39 (by decide) ?_
        refine a_iload C dX12_keysFor_40 4 rfl ?_
        obtain ⟨h18, e19, e⟩ := bA_some e
        refine a_iast C dX12_keysFor_42 e19 ?_
        refine a_aload_n C dX12_keysFor_43 rfl 0 rfl ?_
        refine a_aload_n C dX12_keysFor_44 rfl 0 rfl ?_
        obtain ⟨a21, e20, e⟩ := bA_some e
        refine a_getN C cb11 7 (by decide) fl_X12_25 rfl dX12_keysFor_45 e20 ?_
        refine a_iload_n C dX12_keysFor_48 rfl 1 rfl ?_
        obtain ⟨u28, ec27, e⟩ := bA_some e
        obtain ⟨fs26, eo25⟩ := isC_some ec27
        obtain ⟨r24, h22, e23, e⟩ := b2_some e
        refine a_callV (as := [.ref (lo + a21), .int x1]) (rest := []) C m_X12_goOut im_X12_goOut cb11 se_X12_X12_goOut_X12_goOut ml_X12_230 rfl (Nat.le_of_ble_eq_true rfl) (Nat.le_of_ble_eq_true rfl) (by exact hce) (by exact hsl) (Nat.le_of_ble_eq_true rfl) dX12_keysFor_49 eo25 (k_X12_goOut e23) rfl ?_
        show AW G lo ce sl 52 [(0, .ref (lo + x0)), (1, .int x1), (2, .int x2), (3, .int x3), (4, .int x4)] [.int r24] h22
        obtain ⟨j32, eb34, e⟩ := bA_some e
        have jj33 : AW G lo ce sl 61 [(0, .ref (lo + x0)), (1, .int x1), (2, .int x2), (3, .int x3), (4, .int x4)] [.int j32] h22 := by
          refine a_istore_n (lv2 := [(3, .int j32), (0, .ref (lo + x0)), (1, .int x1), (2, .int x2), (4, .int x4)]) C dX12_keysFor_61 rfl (by decide) rfl ?_
          obtain ⟨rfl, rfl⟩ := sp2 e
          exact a_widen (Nat.le_refl _) (Nat.le_refl _) (a_sub [1, 2, 3, 0, 4] rfl jj5)
        have e := eb34
        refine a_if_le (tgt := 60) C dX12_keysFor_52 (by decide) (fun c31 => ?_) (fun c31 => ?_)
        · have e := ip c31 e
          refine a_iload_n C dX12_keysFor_60 rfl 3 rfl ?_
          obtain rfl := sp1 e
          exact a_widen (Nat.le_refl _) (Nat.le_refl _) (a_sub [0, 1, 2, 3, 4] rfl jj33)
        · have e := iN c31 e
          refine a_iload C dX12_keysFor_55 4 rfl ?_
          refine a_goto (tgt := 61) C dX12_keysFor_57 (by decide) ?_
          obtain rfl := sp1 e
          exact a_widen (Nat.le_refl _) (Nat.le_refl _) (a_sub [0, 1, 2, 3, 4] rfl jj33)
      · have e := iN c2 e
        refine a_iload C dX12_keysFor_19 4 rfl ?_
        obtain ⟨r37, h35, e36, e⟩ := b2_some e
        refine a_callS (as := [.int x4]) (rest := []) C m_X12_bits sm_X12_bits ml_X12_261 rfl (Nat.le_of_ble_eq_true rfl) (Nat.le_of_ble_eq_true rfl) (by exact hce) (by exact hsl) (Nat.le_of_ble_eq_true rfl) dX12_keysFor_21 (k_X12_bits e36) rfl ?_
        show AW G lo ce sl 24 [(0, .ref (lo + x0)), (1, .int x1), (2, .int x2), (3, .int x3), (4, .int x4)] [.int r37] h35
        refine a_iload_n C dX12_keysFor_24 rfl 3 rfl ?_
        obtain ⟨r45, h43, e44, e⟩ := b2_some e
        refine a_callS (as := [.int x3]) (rest := [.int r37]) C m_X12_bits sm_X12_bits ml_X12_261 rfl (Nat.le_of_ble_eq_true rfl) (Nat.le_of_ble_eq_true rfl) (by exact hce) (by exact hsl) (Nat.le_of_ble_eq_true rfl) dX12_keysFor_25 (k_X12_bits e44) rfl ?_
        show AW G lo ce sl 28 [(0, .ref (lo + x0)), (1, .int x1), (2, .int x2), (3, .int x3), (4, .int x4)] [.int r45, .int r37] h43
        refine a_icmp_ge (tgt := 62) C dX12_keysFor_28 (by decide) (fun c51 => ?_) (fun c51 => ?_)
        · have e := ip c51 e
          obtain ⟨rfl, rfl⟩ := sp2 e
          exact a_widen (Nat.le_refl _) (Nat.le_refl _) (a_sub [0, 1, 2, 3, 4] rfl jj5)
        · have e := iN c51 e
          refine a_aload_n C dX12_keysFor_31 rfl 0 rfl ?_
          obtain ⟨u58, ec57, e⟩ := bA_some e
          obtain ⟨fs56, eo55⟩ := isC_some ec57
          obtain ⟨h52, e53, e⟩ := bA_some e
          refine a_callV (as := []) (rest := []) C m_X12_layThen im_X12_layThen cb11 se_X12_X12_layThen_X12_layThen ml_X12_255 rfl (Nat.le_of_ble_eq_true rfl) (Nat.le_of_ble_eq_true rfl) (by exact hce) (by exact hsl) (Nat.le_of_ble_eq_true rfl) dX12_keysFor_32 eo55 (k_X12_layThen e53) rfl ?_
          show AW G lo ce sl 35 [(0, .ref (lo + x0)), (1, .int x1), (2, .int x2), (3, .int x3), (4, .int x4)] [] h52
          refine a_aload_n C dX12_keysFor_35 rfl 0 rfl ?_
          obtain ⟨a62, e61, e⟩ := bA_some e
          refine a_getN C cb11 7 (by decide) fl_X12_25 rfl dX12_keysFor_36 e61 ?_
          refine a_iconst (v := (4 : Int32)) C dX12_keysFor_39 (by decide) ?_
          refine a_iload C dX12_keysFor_40 4 rfl ?_
          obtain ⟨h63, e64, e⟩ := bA_some e
          refine a_iast C dX12_keysFor_42 e64 ?_
          refine a_aload_n C dX12_keysFor_43 rfl 0 rfl ?_
          refine a_aload_n C dX12_keysFor_44 rfl 0 rfl ?_
          obtain ⟨a66, e65, e⟩ := bA_some e
          refine a_getN C cb11 7 (by decide) fl_X12_25 rfl dX12_keysFor_45 e65 ?_
          refine a_iload_n C dX12_keysFor_48 rfl 1 rfl ?_
          obtain ⟨u73, ec72, e⟩ := bA_some e
          obtain ⟨fs71, eo70⟩ := isC_some ec72
          obtain ⟨r69, h67, e68, e⟩ := b2_some e
          refine a_callV (as := [.ref (lo + a66), .int x1]) (rest := []) C m_X12_goOut im_X12_goOut cb11 se_X12_X12_goOut_X12_goOut ml_X12_230 rfl (Nat.le_of_ble_eq_true rfl) (Nat.le_of_ble_eq_true rfl) (by exact hce) (by exact hsl) (Nat.le_of_ble_eq_true rfl) dX12_keysFor_49 eo70 (k_X12_goOut e68) rfl ?_
          show AW G lo ce sl 52 [(0, .ref (lo + x0)), (1, .int x1), (2, .int x2), (3, .int x3), (4, .int x4)] [.int r69] h67
          obtain ⟨j77, eb79, e⟩ := bA_some e
          have jj78 : AW G lo ce sl 61 [(0, .ref (lo + x0)), (1, .int x1), (2, .int x2), (3, .int x3), (4, .int x4)] [.int j77] h67 := by
            refine a_istore_n (lv2 := [(3, .int j77), (0, .ref (lo + x0)), (1, .int x1), (2, .int x2), (4, .int x4)]) C dX12_keysFor_61 rfl (by decide) rfl ?_
            obtain ⟨rfl, rfl⟩ := sp2 e
            exact a_widen (Nat.le_refl _) (Nat.le_refl _) (a_sub [1, 2, 3, 0, 4] rfl jj5)
          have e := eb79
          refine a_if_le (tgt := 60) C dX12_keysFor_52 (by decide) (fun c76 => ?_) (fun c76 => ?_)
          · have e := ip c76 e
            refine a_iload_n C dX12_keysFor_60 rfl 3 rfl ?_
            obtain rfl := sp1 e
            exact a_widen (Nat.le_refl _) (Nat.le_refl _) (a_sub [0, 1, 2, 3, 4] rfl jj78)
          · have e := iN c76 e
            refine a_iload C dX12_keysFor_55 4 rfl ?_
            refine a_goto (tgt := 61) C dX12_keysFor_57 (by decide) ?_
            obtain rfl := sp1 e
            exact a_widen (Nat.le_refl _) (Nat.le_refl _) (a_sub [0, 1, 2, 3, 4] rfl jj78)
set_option maxRecDepth 100000 in
set_option maxHeartbeats 4000000 in
theorem k_X12_keysFor {lo : Nat} {h : Hp} {x0 : Nat} {x1 : Int32} {x2 : Int32} {r : Int32} {h' : Hp} (e : f_X12_keysFor h x0 x1 x2 = some (r, h')) : ∀ l d, AC l d lo yX12_keysFor cX12_keysFor 5 (some .int) ({ frames := 6, cells := 0, slots := 0, locals := 137 } : Room) [.ref (lo + x0), .int x1, .int x2] h (some (.int r)) h' := by
  intro l d
  refine AC_of (by decide) (Nat.le_of_ble_eq_true rfl) ?_
  intro G C _ _ q
  unfold f_X12_keysFor at e
  show AW G lo 0 0 0 [(0, .ref (lo + x0)), (1, .int x1), (2, .int x2)] [] h
  refine a_ldc C ko_X12_96 dX12_keysFor_0 ?_
  refine a_istore_n (lv2 := [(3, .int (-1000000 : Int32)), (0, .ref (lo + x0)), (1, .int x1), (2, .int x2)]) C dX12_keysFor_2 rfl (by decide) rfl ?_
  refine a_iconst (v := (0 : Int32)) C dX12_keysFor_3 (by decide) ?_
  refine a_istore (lv2 := [(4, .int (0 : Int32)), (3, .int (-1000000 : Int32)), (0, .ref (lo + x0)), (1, .int x1), (2, .int x2)]) C dX12_keysFor_4 (by decide) rfl ?_
  refine a_sub [2, 3, 4, 1, 0] rfl (w_X12_keysFor_L6 C ?_ (Nat.le_of_ble_eq_true rfl) (Nat.le_of_ble_eq_true rfl) 2000 _ _ _ e)
  intro h80 y81 y82 e
  show AW G lo 0 0 68 [(0, .ref (lo + x0)), (1, .int x1), (2, .int x2), (3, .int y81), (4, .int y82)] [] h80
  refine a_iload_n C dX12_keysFor_68 rfl 3 rfl ?_
  refine a_ldc C ko_X12_96 dX12_keysFor_69 ?_
  obtain ⟨j84, h85, eb87, e⟩ := b2_some e
  have jj86 : AW G lo 0 0 87 [(0, .ref (lo + x0)), (1, .int x1), (2, .int x2), (3, .int y81), (4, .int y82)] [.int j84] h85 := by
    obtain ⟨rfl, rfl⟩ := sp2 e
    exact a_iret C q (Nat.le_of_ble_eq_true rfl) (Nat.le_of_ble_eq_true rfl) dX12_keysFor_87
  have e := eb87
  refine a_icmp_eq (tgt := 79) C dX12_keysFor_71 (by decide) (fun c83 => ?_) (fun c83 => ?_)
  · have e := ip c83 e
    refine a_iload_n C dX12_keysFor_79 rfl 3 rfl ?_
    refine a_goto (tgt := 87) C dX12_keysFor_80 (by decide) ?_
    obtain ⟨rfl, rfl⟩ := sp2 e
    exact a_widen (Nat.le_of_ble_eq_true rfl) (Nat.le_of_ble_eq_true rfl) (a_sub [0, 1, 2, 3, 4] rfl jj86)
  · have e := iN c83 e
    refine a_iload_n C dX12_keysFor_74 rfl 2 rfl ?_
    refine a_iconst (v := (1 : Int32)) C dX12_keysFor_75 (by decide) ?_
    refine a_icmp_ne (tgt := 83) C dX12_keysFor_76 (by decide) (fun c88 => ?_) (fun c88 => ?_)
    · have e := iN c88 e
      refine a_iload_n C dX12_keysFor_83 rfl 3 rfl ?_
      obtain ⟨r91, h89, e90, e⟩ := b2_some e
      refine a_callS (as := [.int y81]) (rest := []) C m_X12_bits sm_X12_bits ml_X12_261 rfl (Nat.le_of_ble_eq_true rfl) (Nat.le_of_ble_eq_true rfl) (Nat.le_of_ble_eq_true rfl) (Nat.le_of_ble_eq_true rfl) (Nat.le_of_ble_eq_true rfl) dX12_keysFor_84 (k_X12_bits e90) rfl ?_
      show AW G lo 0 0 87 [(0, .ref (lo + x0)), (1, .int x1), (2, .int x2), (3, .int y81), (4, .int y82)] [.int r91] h89
      obtain ⟨rfl, rfl⟩ := sp2 e
      exact a_widen (Nat.le_of_ble_eq_true rfl) (Nat.le_of_ble_eq_true rfl) (a_sub [0, 1, 2, 3, 4] rfl jj86)
    · have e := ip c88 e
      refine a_iload_n C dX12_keysFor_79 rfl 3 rfl ?_
      refine a_goto (tgt := 87) C dX12_keysFor_80 (by decide) ?_
      obtain ⟨rfl, rfl⟩ := sp2 e
      exact a_widen (Nat.le_of_ble_eq_true rfl) (Nat.le_of_ble_eq_true rfl) (a_sub [0, 1, 2, 3, 4] rfl jj86)

set_option maxRecDepth 100000 in
def f_X12_sleepFor_L2 (k : Int32 → Hp → Option (Int32 × Hp)) (x0 : Nat) (x1 : Int32) : Nat → Hp → Int32 → Option (Int32 × Hp)
  | 0, _, _ => none
  | fuel + 1, h, x2 => (if (60 : Int32) < x2 then k x2 h else bA (isC h x0 11) fun u8 => bA (f_X12_layThen h x0 ) fun h2 => bA (gN h2 x0 11 7) fun a12 => bA (ast h2 a12 0 (3 : Int32) x2) fun h13 => bA (gN h13 x0 11 7) fun a16 => bA (isC h13 x0 11) fun u23 => b2 (f_X12_goOut h13 x0 a16 x1) fun r19 h17 => (if r19 ≤ 0 then f_X12_sleepFor_L2 k x0 x1 fuel h17 (x2 + (1 : Int32)) else some (x2, h17)))

set_option maxRecDepth 100000 in
def f_X12_sleepFor (h : Hp) (x0 : Nat) (x1 : Int32) : Option (Int32 × Hp) := f_X12_sleepFor_L2 (fun y28 h27 => some ((-1000000 : Int32), h27)) x0 x1 2000 h (1 : Int32)

theorem m_X12_sleepFor : MI yX12_sleepFor cX12_sleepFor 3 (some .int) 1 := ⟨co_X12_sleepFor, ini_X12, by decide, by decide +kernel⟩
set_option maxRecDepth 100000 in
set_option maxHeartbeats 4000000 in
theorem w_X12_sleepFor_L2 {G : Gm} {lo : Nat} {ce sl : Nat} (C : CX G lo cX12_sleepFor RX12 (some .int) ({ frames := 6, cells := 0, slots := 0, locals := 137 } : Room) 3) {r : Int32} {h' : Hp} {k : Int32 → Hp → Option (Int32 × Hp)} {x0 : Nat} {x1 : Int32} (q : RQ G lo (some (.int r)) h' 0 0) (hk : ∀ (h : Hp) (x2 : Int32), k x2 h = some (r, h') → AW G lo ce sl 39 [(0, .ref (lo + x0)), (1, .int x1), (2, .int x2)] [] h) (hce : ce ≤ 0) (hsl : sl ≤ 0) : ∀ (fuel : Nat) (h : Hp) (x2 : Int32), f_X12_sleepFor_L2 k x0 x1 fuel h x2 = some (r, h') → AW G lo ce sl 2 [(0, .ref (lo + x0)), (1, .int x1), (2, .int x2)] [] h := by
  intro fuel
  induction fuel with
  | zero =>
    intro h x2 e
    cases (show (none : Option (Int32 × Hp)) = some (r, h') from e)
  | succ fuel ih =>
    intro h x2 e
    rw [f_X12_sleepFor_L2] at e
    refine a_iload_n C dX12_sleepFor_2 rfl 2 rfl ?_
    refine a_bipush (v := (60 : Int32)) C dX12_sleepFor_3 (by decide) ?_
    refine a_icmp_gt (tgt := 39) C dX12_sleepFor_5 (by decide) (fun c1 => ?_) (fun c1 => ?_)
    · have e := ip c1 e
      exact a_sub [0, 1, 2] rfl (hk _ _ e)
    · have e := iN c1 e
      refine a_aload_n C dX12_sleepFor_8 rfl 0 rfl ?_
      obtain ⟨u8, ec7, e⟩ := bA_some e
      obtain ⟨fs6, eo5⟩ := isC_some ec7
      obtain ⟨h2, e3, e⟩ := bA_some e
      refine a_callV (as := []) (rest := []) C m_X12_layThen im_X12_layThen cb11 se_X12_X12_layThen_X12_layThen ml_X12_255 rfl (Nat.le_of_ble_eq_true rfl) (Nat.le_of_ble_eq_true rfl) (by exact hce) (by exact hsl) (Nat.le_of_ble_eq_true rfl) dX12_sleepFor_9 eo5 (k_X12_layThen e3) rfl ?_
      show AW G lo ce sl 12 [(0, .ref (lo + x0)), (1, .int x1), (2, .int x2)] [] h2
      refine a_aload_n C dX12_sleepFor_12 rfl 0 rfl ?_
      obtain ⟨a12, e11, e⟩ := bA_some e
      refine a_getN C cb11 7 (by decide) fl_X12_25 rfl dX12_sleepFor_13 e11 ?_
      refine a_iconst (v := (3 : Int32)) C dX12_sleepFor_16 (by decide) ?_
      refine a_iload_n C dX12_sleepFor_17 rfl 2 rfl ?_
      obtain ⟨h13, e14, e⟩ := bA_some e
      refine a_iast C dX12_sleepFor_18 e14 ?_
      refine a_aload_n C dX12_sleepFor_19 rfl 0 rfl ?_
      refine a_aload_n C dX12_sleepFor_20 rfl 0 rfl ?_
      obtain ⟨a16, e15, e⟩ := bA_some e
      refine a_getN C cb11 7 (by decide) fl_X12_25 rfl dX12_sleepFor_21 e15 ?_
      refine a_iload_n C dX12_sleepFor_24 rfl 1 rfl ?_
      obtain ⟨u23, ec22, e⟩ := bA_some e
      obtain ⟨fs21, eo20⟩ := isC_some ec22
      obtain ⟨r19, h17, e18, e⟩ := b2_some e
      refine a_callV (as := [.ref (lo + a16), .int x1]) (rest := []) C m_X12_goOut im_X12_goOut cb11 se_X12_X12_goOut_X12_goOut ml_X12_230 rfl (Nat.le_of_ble_eq_true rfl) (Nat.le_of_ble_eq_true rfl) (by exact hce) (by exact hsl) (Nat.le_of_ble_eq_true rfl) dX12_sleepFor_25 eo20 (k_X12_goOut e18) rfl ?_
      show AW G lo ce sl 28 [(0, .ref (lo + x0)), (1, .int x1), (2, .int x2)] [.int r19] h17
      refine a_if_le (tgt := 33) C dX12_sleepFor_28 (by decide) (fun c26 => ?_) (fun c26 => ?_)
      · have e := ip c26 e
        refine a_iinc (v := x2 + (1 : Int32)) (lv2 := [(2, .int (x2 + (1 : Int32))), (0, .ref (lo + x0)), (1, .int x1)]) C dX12_sleepFor_33 2 rfl rfl (by decide) rfl ?_
        refine a_goto (tgt := 2) C dX12_sleepFor_36 (by decide) ?_
        exact a_sub [1, 2, 0] rfl (ih _ _ e)
      · have e := iN c26 e
        refine a_iload_n C dX12_sleepFor_31 rfl 2 rfl ?_
        obtain ⟨rfl, rfl⟩ := sp2 e
        exact a_iret C q (by exact hce) (by exact hsl) dX12_sleepFor_32
set_option maxRecDepth 100000 in
set_option maxHeartbeats 4000000 in
theorem k_X12_sleepFor {lo : Nat} {h : Hp} {x0 : Nat} {x1 : Int32} {r : Int32} {h' : Hp} (e : f_X12_sleepFor h x0 x1 = some (r, h')) : ∀ l d, AC l d lo yX12_sleepFor cX12_sleepFor 3 (some .int) ({ frames := 6, cells := 0, slots := 0, locals := 137 } : Room) [.ref (lo + x0), .int x1] h (some (.int r)) h' := by
  intro l d
  refine AC_of (by decide) (Nat.le_of_ble_eq_true rfl) ?_
  intro G C _ _ q
  unfold f_X12_sleepFor at e
  show AW G lo 0 0 0 [(0, .ref (lo + x0)), (1, .int x1)] [] h
  refine a_iconst (v := (1 : Int32)) C dX12_sleepFor_0 (by decide) ?_
  refine a_istore_n (lv2 := [(2, .int (1 : Int32)), (0, .ref (lo + x0)), (1, .int x1)]) C dX12_sleepFor_1 rfl (by decide) rfl ?_
  refine a_sub [1, 2, 0] rfl (w_X12_sleepFor_L2 C q ?_ (Nat.le_of_ble_eq_true rfl) (Nat.le_of_ble_eq_true rfl) 2000 _ _ e)
  intro h27 y28 e
  show AW G lo 0 0 39 [(0, .ref (lo + x0)), (1, .int x1), (2, .int y28)] [] h27
  refine a_ldc C ko_X12_96 dX12_sleepFor_39 ?_
  obtain ⟨rfl, rfl⟩ := sp2 e
  exact a_iret C q (Nat.le_of_ble_eq_true rfl) (Nat.le_of_ble_eq_true rfl) dX12_sleepFor_41

set_option maxRecDepth 100000 in
def f_X12_needs (h : Hp) (x0 : Nat) (x1 : Int32) (x2 : Int32) (x3 : Int32) (x4 : Int32) : Option (Int32 × Hp) := bA (pV h x0 11 0 (.inl (0 : Int32))) fun h2 => bA (isC h2 x0 11) fun u9 => b2 (f_X12_isThere h2 x0 ) fun r5 h3 => (if r5 = 0 then some ((-1000002 : Int32), h3) else b2 (f_X12_isErrand h3 x1 x3) fun r15 h13 => (if r15 = 0 then some ((-1000001 : Int32), h13) else b2 (f_X12_in h13 x4.toInt64 (0 : Int64) (2 : Int64)) fun r24 h22 => (if r24 = 0 then some ((-1000001 : Int32), h22) else bA (isC h22 x0 11) fun u37 => b2 (f_X12_rowFound h22 x0 x1 x2 x3) fun r33 h31 => (if r33 = 0 then b2 (if x4 = (2 : Int32) then bA (isC h31 x0 11) fun u61 => b2 (f_X12_sleepFor h31 x0 x3) fun r57 h55 => some (r57, h55) else bA (isC h31 x0 11) fun u52 => b2 (f_X12_keysFor h31 x0 x3 x4) fun r48 h46 => some (r48, h46)) fun j42 h43 => some (j42, h43) else some (r33, h31)))))

theorem m_X12_needs : MI yX12_needs cX12_needs 6 (some .int) 4 := ⟨co_X12_needs, ini_X12, by decide, by decide +kernel⟩
set_option maxRecDepth 100000 in
set_option maxHeartbeats 4000000 in
theorem k_X12_needs {lo : Nat} {h : Hp} {x0 : Nat} {x1 : Int32} {x2 : Int32} {x3 : Int32} {x4 : Int32} {r : Int32} {h' : Hp} (e : f_X12_needs h x0 x1 x2 x3 x4 = some (r, h')) : ∀ l d, AC l d lo yX12_needs cX12_needs 6 (some .int) ({ frames := 7, cells := 0, slots := 0, locals := 161 } : Room) [.ref (lo + x0), .int x1, .int x2, .int x3, .int x4] h (some (.int r)) h' := by
  intro l d
  refine AC_of (by decide) (Nat.le_of_ble_eq_true rfl) ?_
  intro G C _ _ q
  unfold f_X12_needs at e
  show AW G lo 0 0 0 [(0, .ref (lo + x0)), (1, .int x1), (2, .int x2), (3, .int x3), (4, .int x4)] [] h
  refine a_aload_n C dX12_needs_0 rfl 0 rfl ?_
  refine a_iconst (v := (0 : Int32)) C dX12_needs_1 (by decide) ?_
  obtain ⟨h2, e1, e⟩ := bA_some e
  refine a_putI C cb11 0 (by decide) fl_X12_53 rfl (by decide +kernel) dX12_needs_2 e1 ?_
  refine a_aload_n C dX12_needs_5 rfl 0 rfl ?_
  obtain ⟨u9, ec8, e⟩ := bA_some e
  obtain ⟨fs7, eo6⟩ := isC_some ec8
  obtain ⟨r5, h3, e4, e⟩ := b2_some e
  refine a_callV (as := []) (rest := []) C m_X12_isThere im_X12_isThere cb11 se_X12_X12_isThere_X12_isThere ml_X12_216 rfl (Nat.le_of_ble_eq_true rfl) (Nat.le_of_ble_eq_true rfl) (Nat.le_of_ble_eq_true rfl) (Nat.le_of_ble_eq_true rfl) (Nat.le_of_ble_eq_true rfl) dX12_needs_6 eo6 (k_X12_isThere e4) rfl ?_
  show AW G lo 0 0 9 [(0, .ref (lo + x0)), (1, .int x1), (2, .int x2), (3, .int x3), (4, .int x4)] [.int r5] h3
  refine a_if_ne (tgt := 15) C dX12_needs_9 (by decide) (fun c12 => ?_) (fun c12 => ?_)
  · have e := iN c12 e
    refine a_iload_n C dX12_needs_15 rfl 1 rfl ?_
    refine a_iload_n C dX12_needs_16 rfl 3 rfl ?_
    obtain ⟨r15, h13, e14, e⟩ := b2_some e
    refine a_callS (as := [.int x1, .int x3]) (rest := []) C m_X12_isErrand sm_X12_isErrand ml_X12_220 rfl (Nat.le_of_ble_eq_true rfl) (Nat.le_of_ble_eq_true rfl) (Nat.le_of_ble_eq_true rfl) (Nat.le_of_ble_eq_true rfl) (Nat.le_of_ble_eq_true rfl) dX12_needs_17 (k_X12_isErrand e14) rfl ?_
    show AW G lo 0 0 20 [(0, .ref (lo + x0)), (1, .int x1), (2, .int x2), (3, .int x3), (4, .int x4)] [.int r15] h13
    refine a_if_eq (tgt := 36) C dX12_needs_20 (by decide) (fun c21 => ?_) (fun c21 => ?_)
    · have e := ip c21 e
      refine a_ldc C ko_X12_73 dX12_needs_36 ?_
      obtain ⟨rfl, rfl⟩ := sp2 e
      exact a_iret C q (Nat.le_of_ble_eq_true rfl) (Nat.le_of_ble_eq_true rfl) dX12_needs_38
    · have e := iN c21 e
      refine a_iload C dX12_needs_23 4 rfl ?_
      refine a_i2l C dX12_needs_25 ?_
      refine a_lconst (v := (0 : Int64)) C dX12_needs_26 (by decide) ?_
      refine a_ldc2 C kL_X12_71 dX12_needs_27 ?_
      obtain ⟨r24, h22, e23, e⟩ := b2_some e
      refine a_callS (as := [.long x4.toInt64, .long (0 : Int64), .long (2 : Int64)]) (rest := []) C m_X12_in sm_X12_in ml_X12_63 rfl (Nat.le_of_ble_eq_true rfl) (Nat.le_of_ble_eq_true rfl) (Nat.le_of_ble_eq_true rfl) (Nat.le_of_ble_eq_true rfl) (Nat.le_of_ble_eq_true rfl) dX12_needs_30 (k_X12_in e23) rfl ?_
      show AW G lo 0 0 33 [(0, .ref (lo + x0)), (1, .int x1), (2, .int x2), (3, .int x3), (4, .int x4)] [.int r24] h22
      refine a_if_ne (tgt := 39) C dX12_needs_33 (by decide) (fun c30 => ?_) (fun c30 => ?_)
      · have e := iN c30 e
        refine a_aload_n C dX12_needs_39 rfl 0 rfl ?_
        refine a_iload_n C dX12_needs_40 rfl 1 rfl ?_
        refine a_iload_n C dX12_needs_41 rfl 2 rfl ?_
        refine a_iload_n C dX12_needs_42 rfl 3 rfl ?_
        obtain ⟨u37, ec36, e⟩ := bA_some e
        obtain ⟨fs35, eo34⟩ := isC_some ec36
        obtain ⟨r33, h31, e32, e⟩ := b2_some e
        refine a_callV (as := [.int x1, .int x2, .int x3]) (rest := []) C m_X12_rowFound im_X12_rowFound cb11 se_X12_X12_rowFound_X12_rowFound ml_X12_223 rfl (Nat.le_of_ble_eq_true rfl) (Nat.le_of_ble_eq_true rfl) (Nat.le_of_ble_eq_true rfl) (Nat.le_of_ble_eq_true rfl) (Nat.le_of_ble_eq_true rfl) dX12_needs_43 eo34 (k_X12_rowFound e32) rfl ?_
        show AW G lo 0 0 46 [(0, .ref (lo + x0)), (1, .int x1), (2, .int x2), (3, .int x3), (4, .int x4)] [.int r33] h31
        refine a_istore (lv2 := [(5, .int r33), (0, .ref (lo + x0)), (1, .int x1), (2, .int x2), (3, .int x3), (4, .int x4)]) C dX12_needs_46 (by decide) rfl ?_
        refine a_iload C dX12_needs_48 0 rfl ?_
        refine a_if_eq (tgt := 56) C dX12_needs_50 (by decide) (fun c40 => ?_) (fun c40 => ?_)
        · have e := ip c40 e
          refine a_iload C dX12_needs_56 5 rfl ?_
          refine a_iconst (v := (2 : Int32)) C dX12_needs_58 (by decide) ?_
          obtain ⟨j42, h43, eb45, e⟩ := b2_some e
          have jj44 : AW G lo 0 0 77 [(0, .ref (lo + x0)), (1, .int x1), (2, .int x2), (3, .int x3), (4, .int x4), (5, .int r33)] [.int j42] h43 := by
            obtain ⟨rfl, rfl⟩ := sp2 e
            exact a_iret C q (Nat.le_of_ble_eq_true rfl) (Nat.le_of_ble_eq_true rfl) dX12_needs_77
          have e := eb45
          refine a_icmp_ne (tgt := 70) C dX12_needs_59 (by decide) (fun c41 => ?_) (fun c41 => ?_)
          · have e := iN c41 e
            refine a_aload_n C dX12_needs_70 rfl 1 rfl ?_
            refine a_iload_n C dX12_needs_71 rfl 4 rfl ?_
            refine a_iload C dX12_needs_72 5 rfl ?_
            obtain ⟨u52, ec51, e⟩ := bA_some e
            obtain ⟨fs50, eo49⟩ := isC_some ec51
            obtain ⟨r48, h46, e47, e⟩ := b2_some e
            refine a_callV (as := [.int x3, .int x4]) (rest := []) C m_X12_keysFor im_X12_keysFor cb11 se_X12_X12_keysFor_X12_keysFor ml_X12_267 rfl (Nat.le_of_ble_eq_true rfl) (Nat.le_of_ble_eq_true rfl) (Nat.le_of_ble_eq_true rfl) (Nat.le_of_ble_eq_true rfl) (Nat.le_of_ble_eq_true rfl) dX12_needs_74 eo49 (k_X12_keysFor e47) rfl ?_
            show AW G lo 0 0 77 [(5, .int r33), (0, .ref (lo + x0)), (1, .int x1), (2, .int x2), (3, .int x3), (4, .int x4)] [.int r48] h46
            obtain ⟨rfl, rfl⟩ := sp2 e
            exact a_widen (Nat.le_of_ble_eq_true rfl) (Nat.le_of_ble_eq_true rfl) (a_sub [1, 2, 3, 4, 5, 0] rfl jj44)
          · have e := ip c41 e
            refine a_aload_n C dX12_needs_62 rfl 1 rfl ?_
            refine a_iload_n C dX12_needs_63 rfl 4 rfl ?_
            obtain ⟨u61, ec60, e⟩ := bA_some e
            obtain ⟨fs59, eo58⟩ := isC_some ec60
            obtain ⟨r57, h55, e56, e⟩ := b2_some e
            refine a_callV (as := [.int x3]) (rest := []) C m_X12_sleepFor im_X12_sleepFor cb11 se_X12_X12_sleepFor_X12_sleepFor ml_X12_264 rfl (Nat.le_of_ble_eq_true rfl) (Nat.le_of_ble_eq_true rfl) (Nat.le_of_ble_eq_true rfl) (Nat.le_of_ble_eq_true rfl) (Nat.le_of_ble_eq_true rfl) dX12_needs_64 eo58 (k_X12_sleepFor e56) rfl ?_
            show AW G lo 0 0 67 [(5, .int r33), (0, .ref (lo + x0)), (1, .int x1), (2, .int x2), (3, .int x3), (4, .int x4)] [.int r57] h55
            refine a_goto (tgt := 77) C dX12_needs_67 (by decide) ?_
            obtain ⟨rfl, rfl⟩ := sp2 e
            exact a_widen (Nat.le_of_ble_eq_true rfl) (Nat.le_of_ble_eq_true rfl) (a_sub [1, 2, 3, 4, 5, 0] rfl jj44)
        · have e := iN c40 e
          refine a_iload C dX12_needs_53 0 rfl ?_
          obtain ⟨rfl, rfl⟩ := sp2 e
          exact a_iret C q (Nat.le_of_ble_eq_true rfl) (Nat.le_of_ble_eq_true rfl) dX12_needs_55
      · have e := ip c30 e
        refine a_ldc C ko_X12_73 dX12_needs_36 ?_
        obtain ⟨rfl, rfl⟩ := sp2 e
        exact a_iret C q (Nat.le_of_ble_eq_true rfl) (Nat.le_of_ble_eq_true rfl) dX12_needs_38
  · have e := ip c12 e
    refine a_ldc C ko_X12_219 dX12_needs_12 ?_
    obtain ⟨rfl, rfl⟩ := sp2 e
    exact a_iret C q (Nat.le_of_ble_eq_true rfl) (Nat.le_of_ble_eq_true rfl) dX12_needs_14
