set_option maxRecDepth 100000 in
def f_X6_init (h : Hp) (x0 : Nat) (x1 : Int32) : Option (Hp) := bA (okN (if (0 : Int32) < x1 then x1 else (0 : Int32))) fun u4 => nw h (.inl (0, (if (0 : Int32) < x1 then x1 else (0 : Int32)).toNatClampNeg, fun _ => 0)) fun q2 h1 => bA (pV h1 x0 5 0 (.inr (some q2))) fun h6 => some h6

theorem m_X6_init : MI yX6_init cX6_init 2 none 1 := ⟨co_X6_init, ini_X6, by decide, by decide +kernel⟩
set_option maxRecDepth 100000 in
set_option maxHeartbeats 4000000 in
theorem k_X6_init {lo : Nat} {h : Hp} {x0 : Nat} {x1 : Int32} {h' : Hp} (e : f_X6_init h x0 x1 = some h') : ∀ l d, AC l d lo yX6_init cX6_init 2 none ({ frames := 1, cells := 1, slots := 40, locals := 24 } : Room) [.ref (lo + x0), .int x1] h none h' := by
  intro l d
  refine AC_of (by decide) (Nat.le_of_ble_eq_true rfl) ?_
  intro G C hN _ q
  unfold f_X6_init at e
  show AW G lo 0 0 0 [(0, .ref (lo + x0)), (1, .int x1)] [] h
  refine a_aload_n C dX6_init_0 rfl 0 rfl ?_
  refine a_objinit C ml_X6_3 im_objinit co_objinit (Nat.le_of_ble_eq_true rfl) (Nat.le_of_ble_eq_true rfl) dX6_init_1 ?_
  refine a_aload_n C dX6_init_4 rfl 0 rfl ?_
  refine a_iconst (v := (0 : Int32)) C dX6_init_5 (by decide) ?_
  refine a_iload_n C dX6_init_6 rfl 1 rfl ?_
  refine a_mmax C ml_X6_9 sm_J9_max_7cf53 ini_J9 co_J9_max_7cf53 (Nat.le_of_ble_eq_true rfl) (Nat.le_of_ble_eq_true rfl) (Nat.le_of_ble_eq_true rfl) (Nat.le_of_ble_eq_true rfl) dX6_init_7 ?_
  obtain ⟨u4, ez3, e⟩ := bA_some e
  refine a_newa C (okN_some ez3).1 rfl (by have := (okN_some ez3).2; omega) (Nat.le_of_ble_eq_true rfl) (by have := (okN_some ez3).2; show _ ≤ (40 : Nat); omega) dX6_init_10 ?_
  refine a_widen (ce2 := 1) (sl2 := 40) (Nat.le_refl _) (by have := (okN_some ez3).2; omega) ?_
  obtain ⟨q2, h1, e0_q2, e1_h1, e⟩ := nw_some e
  rw [← e0_q2, ← e1_h1]
  show AW G lo 1 40 12 [(0, .ref (lo + x0)), (1, .int x1)] [.ref (lo + q2), .ref (lo + x0)] h1
  obtain ⟨h6, e5, e⟩ := bA_some e
  refine a_putFR (t := (.array .int)) C hN cb5 0 (by decide) fl_X6_15 rfl rfl (by decide +kernel) rfl rfl dX6_init_12 e5 ?_
  obtain rfl := sp1 e
  exact a_vret C q (Nat.le_of_ble_eq_true rfl) (Nat.le_of_ble_eq_true rfl) dX6_init_15

set_option maxRecDepth 100000 in
def f_X6_clear (h : Hp) (x0 : Nat) : Option (Hp) := bA (pV h x0 5 1 (.inl (0 : Int32))) fun h2 => some h2

theorem m_X6_clear : MI yX6_clear cX6_clear 1 none 0 := ⟨co_X6_clear, ini_X6, by decide, by decide +kernel⟩
set_option maxRecDepth 100000 in
set_option maxHeartbeats 4000000 in
theorem k_X6_clear {lo : Nat} {h : Hp} {x0 : Nat} {h' : Hp} (e : f_X6_clear h x0 = some h') : ∀ l d, AC l d lo yX6_clear cX6_clear 1 none ({ frames := 0, cells := 0, slots := 0, locals := 0 } : Room) [.ref (lo + x0)] h none h' := by
  intro l d
  refine AC_of (by decide) (Nat.le_of_ble_eq_true rfl) ?_
  intro G C _ _ q
  unfold f_X6_clear at e
  show AW G lo 0 0 0 [(0, .ref (lo + x0))] [] h
  refine a_aload_n C dX6_clear_0 rfl 0 rfl ?_
  refine a_iconst (v := (0 : Int32)) C dX6_clear_1 (by decide) ?_
  obtain ⟨h2, e1, e⟩ := bA_some e
  refine a_putI C cb5 1 (by decide) fl_X6_21 rfl (by decide +kernel) dX6_clear_2 e1 ?_
  obtain rfl := sp1 e
  exact a_vret C q (Nat.le_of_ble_eq_true rfl) (Nat.le_of_ble_eq_true rfl) dX6_clear_5

set_option maxRecDepth 100000 in
def f_X6_add (h : Hp) (x0 : Nat) (x1 : Int32) : Option (Hp) := bA (gI h x0 5 1) fun g2 => bA (gN h x0 5 0) fun a4 => bA (aln h a4 0) fun n5 => bA (if n5 ≤ g2 then some h else bA (gN h x0 5 0) fun a12 => bA (gI h x0 5 1) fun g14 => bA (ast h a12 0 g14 x1) fun h15 => bA (gI h15 x0 5 1) fun g18 => bA (pV h15 x0 5 1 (.inl (g18 + (1 : Int32)))) fun h20 => some h20) fun h8 => some h8

theorem m_X6_add : MI yX6_add cX6_add 2 none 1 := ⟨co_X6_add, ini_X6, by decide, by decide +kernel⟩
set_option maxRecDepth 100000 in
set_option maxHeartbeats 4000000 in
theorem k_X6_add {lo : Nat} {h : Hp} {x0 : Nat} {x1 : Int32} {h' : Hp} (e : f_X6_add h x0 x1 = some h') : ∀ l d, AC l d lo yX6_add cX6_add 2 none ({ frames := 0, cells := 0, slots := 0, locals := 0 } : Room) [.ref (lo + x0), .int x1] h none h' := by
  intro l d
  refine AC_of (by decide) (Nat.le_of_ble_eq_true rfl) ?_
  intro G C _ _ q
  unfold f_X6_add at e
  show AW G lo 0 0 0 [(0, .ref (lo + x0)), (1, .int x1)] [] h
  refine a_aload_n C dX6_add_0 rfl 0 rfl ?_
  obtain ⟨g2, e1, e⟩ := bA_some e
  refine a_getI C cb5 1 (by decide) fl_X6_21 rfl dX6_add_1 e1 ?_
  refine a_aload_n C dX6_add_4 rfl 0 rfl ?_
  obtain ⟨a4, e3, e⟩ := bA_some e
  refine a_getN C cb5 0 (by decide) fl_X6_15 rfl dX6_add_5 e3 ?_
  obtain ⟨n5, e6, e⟩ := bA_some e
  refine a_aln C dX6_add_8 e6 ?_
  obtain ⟨h8, eb10, e⟩ := bA_some e
  have jj9 : AW G lo 0 0 32 [(0, .ref (lo + x0)), (1, .int x1)] [] h8 := by
    obtain rfl := sp1 e
    exact a_vret C q (Nat.le_of_ble_eq_true rfl) (Nat.le_of_ble_eq_true rfl) dX6_add_32
  have e := eb10
  refine a_icmp_ge (tgt := 32) C dX6_add_9 (by decide) (fun c7 => ?_) (fun c7 => ?_)
  · have e := ip c7 e
    obtain rfl := sp1 e
    exact a_widen (Nat.le_of_ble_eq_true rfl) (Nat.le_of_ble_eq_true rfl) (a_sub [0, 1] rfl jj9)
  · have e := iN c7 e
    refine a_aload_n C dX6_add_12 rfl 0 rfl ?_
    obtain ⟨a12, e11, e⟩ := bA_some e
    refine a_getN C cb5 0 (by decide) fl_X6_15 rfl dX6_add_13 e11 ?_
    refine a_aload_n C dX6_add_16 rfl 0 rfl ?_
    obtain ⟨g14, e13, e⟩ := bA_some e
    refine a_getI C cb5 1 (by decide) fl_X6_21 rfl dX6_add_17 e13 ?_
    refine a_iload_n C dX6_add_20 rfl 1 rfl ?_
    obtain ⟨h15, e16, e⟩ := bA_some e
    refine a_iast C dX6_add_21 e16 ?_
    refine a_aload_n C dX6_add_22 rfl 0 rfl ?_
    refine a_dup C dX6_add_23 rfl ?_
    obtain ⟨g18, e17, e⟩ := bA_some e
    refine a_getI C cb5 1 (by decide) fl_X6_21 rfl dX6_add_24 e17 ?_
    refine a_iconst (v := (1 : Int32)) C dX6_add_27 (by decide) ?_
    refine a_iadd C dX6_add_28 ?_
    obtain ⟨h20, e19, e⟩ := bA_some e
    refine a_putI C cb5 1 (by decide) fl_X6_21 rfl (by decide +kernel) dX6_add_29 e19 ?_
    obtain rfl := sp1 e
    exact a_widen (Nat.le_of_ble_eq_true rfl) (Nat.le_of_ble_eq_true rfl) (a_sub [0, 1] rfl jj9)

set_option maxRecDepth 100000 in
def f_X6_at (h : Hp) (x0 : Nat) (x1 : Int32) : Option (Int32 × Hp) := bA (if x1 < 0 then some (-1000000 : Int32) else bA (gI h x0 5 1) fun g6 => (if g6 ≤ x1 then some (-1000000 : Int32) else bA (gN h x0 5 0) fun a9 => bA (ald h a9 0 x1) fun v10 => some v10)) fun j2 => some (j2, h)

theorem m_X6_at : MI yX6_at cX6_at 2 (some .int) 1 := ⟨co_X6_at, ini_X6, by decide, by decide +kernel⟩
set_option maxRecDepth 100000 in
set_option maxHeartbeats 4000000 in
theorem k_X6_at {lo : Nat} {h : Hp} {x0 : Nat} {x1 : Int32} {r : Int32} {h' : Hp} (e : f_X6_at h x0 x1 = some (r, h')) : ∀ l d, AC l d lo yX6_at cX6_at 2 (some .int) ({ frames := 0, cells := 0, slots := 0, locals := 0 } : Room) [.ref (lo + x0), .int x1] h (some (.int r)) h' := by
  intro l d
  refine AC_of (by decide) (Nat.le_of_ble_eq_true rfl) ?_
  intro G C _ _ q
  unfold f_X6_at at e
  show AW G lo 0 0 0 [(0, .ref (lo + x0)), (1, .int x1)] [] h
  refine a_iload_n C dX6_at_0 rfl 1 rfl ?_
  obtain ⟨j2, eb4, e⟩ := bA_some e
  have jj3 : AW G lo 0 0 23 [(0, .ref (lo + x0)), (1, .int x1)] [.int j2] h := by
    obtain ⟨rfl, rfl⟩ := sp2 e
    exact a_iret C q (Nat.le_of_ble_eq_true rfl) (Nat.le_of_ble_eq_true rfl) dX6_at_23
  have e := eb4
  refine a_if_lt (tgt := 21) C dX6_at_1 (by decide) (fun c1 => ?_) (fun c1 => ?_)
  · have e := ip c1 e
    refine a_ldc C ko_X6_25 dX6_at_21 ?_
    obtain rfl := sp1 e
    exact a_widen (Nat.le_of_ble_eq_true rfl) (Nat.le_of_ble_eq_true rfl) (a_sub [0, 1] rfl jj3)
  · have e := iN c1 e
    refine a_iload_n C dX6_at_4 rfl 1 rfl ?_
    refine a_aload_n C dX6_at_5 rfl 0 rfl ?_
    obtain ⟨g6, e5, e⟩ := bA_some e
    refine a_getI C cb5 1 (by decide) fl_X6_21 rfl dX6_at_6 e5 ?_
    refine a_icmp_ge (tgt := 21) C dX6_at_9 (by decide) (fun c7 => ?_) (fun c7 => ?_)
    · have e := ip c7 e
      refine a_ldc C ko_X6_25 dX6_at_21 ?_
      obtain rfl := sp1 e
      exact a_widen (Nat.le_of_ble_eq_true rfl) (Nat.le_of_ble_eq_true rfl) (a_sub [0, 1] rfl jj3)
    · have e := iN c7 e
      refine a_aload_n C dX6_at_12 rfl 0 rfl ?_
      obtain ⟨a9, e8, e⟩ := bA_some e
      refine a_getN C cb5 0 (by decide) fl_X6_15 rfl dX6_at_13 e8 ?_
      refine a_iload_n C dX6_at_16 rfl 1 rfl ?_
      obtain ⟨v10, e11, e⟩ := bA_some e
      refine a_iald C dX6_at_17 e11 ?_
      refine a_goto (tgt := 23) C dX6_at_18 (by decide) ?_
      obtain rfl := sp1 e
      exact a_widen (Nat.le_of_ble_eq_true rfl) (Nat.le_of_ble_eq_true rfl) (a_sub [0, 1] rfl jj3)

set_option maxRecDepth 100000 in
def f_X8_init (h : Hp) (x0 : Nat) : Option (Hp) := nw h (.inl (0, 40, fun _ => 0)) fun q2 h1 => bA (pV h1 x0 7 0 (.inr (some q2))) fun h4 => bA (pV h4 x0 7 1 (.inl (-1 : Int32))) fun h6 => some h6

theorem m_X8_init : MI yX8_init cX8_init 1 none 0 := ⟨co_X8_init, ini_X8, by decide, by decide +kernel⟩
set_option maxRecDepth 100000 in
set_option maxHeartbeats 4000000 in
theorem k_X8_init {lo : Nat} {h : Hp} {x0 : Nat} {h' : Hp} (e : f_X8_init h x0 = some h') : ∀ l d, AC l d lo yX8_init cX8_init 1 none ({ frames := 1, cells := 1, slots := 40, locals := 20 } : Room) [.ref (lo + x0)] h none h' := by
  intro l d
  refine AC_of (by decide) (Nat.le_of_ble_eq_true rfl) ?_
  intro G C hN _ q
  unfold f_X8_init at e
  show AW G lo 0 0 0 [(0, .ref (lo + x0))] [] h
  refine a_aload_n C dX8_init_0 rfl 0 rfl ?_
  refine a_objinit C ml_X8_3 im_objinit co_objinit (Nat.le_of_ble_eq_true rfl) (Nat.le_of_ble_eq_true rfl) dX8_init_1 ?_
  refine a_aload_n C dX8_init_4 rfl 0 rfl ?_
  refine a_bipush (v := (40 : Int32)) C dX8_init_5 (by decide) ?_
  refine a_newa (N := 40) C (by decide) (by decide) (Nat.le_of_ble_eq_true rfl) (Nat.le_of_ble_eq_true rfl) (Nat.le_of_ble_eq_true rfl) dX8_init_7 ?_
  obtain ⟨q2, h1, e0_q2, e1_h1, e⟩ := nw_some e
  rw [← e0_q2, ← e1_h1]
  show AW G lo 1 40 9 [(0, .ref (lo + x0))] [.ref (lo + q2), .ref (lo + x0)] h1
  obtain ⟨h4, e3, e⟩ := bA_some e
  refine a_putFR (t := (.array .int)) C hN cb7 0 (by decide) fl_X8_9 rfl rfl (by decide +kernel) rfl rfl dX8_init_9 e3 ?_
  refine a_aload_n C dX8_init_12 rfl 0 rfl ?_
  refine a_iconst (v := (-1 : Int32)) C dX8_init_13 (by decide) ?_
  obtain ⟨h6, e5, e⟩ := bA_some e
  refine a_putI C cb7 1 (by decide) fl_X8_15 rfl (by decide +kernel) dX8_init_14 e5 ?_
  obtain rfl := sp1 e
  exact a_vret C q (Nat.le_of_ble_eq_true rfl) (Nat.le_of_ble_eq_true rfl) dX8_init_17

set_option maxRecDepth 100000 in
def f_X8_isMissing (h : Hp) (x0 : Nat) : Option (Int32 × Hp) := bA (gI h x0 7 1) fun g2 => bA (if 0 ≤ g2 then some (0 : Int32) else some (1 : Int32)) fun j4 => bA (bz j4) fun z7 => some (j4, h)

theorem m_X8_isMissing : MI yX8_isMissing cX8_isMissing 1 (some .boolean) 0 := ⟨co_X8_isMissing, ini_X8, by decide, by decide +kernel⟩
set_option maxRecDepth 100000 in
set_option maxHeartbeats 4000000 in
theorem k_X8_isMissing {lo : Nat} {h : Hp} {x0 : Nat} {r : Int32} {h' : Hp} (e : f_X8_isMissing h x0 = some (r, h')) : ∀ l d, AC l d lo yX8_isMissing cX8_isMissing 1 (some .boolean) ({ frames := 0, cells := 0, slots := 0, locals := 0 } : Room) [.ref (lo + x0)] h (some (.int r)) h' := by
  intro l d
  refine AC_of (by decide) (Nat.le_of_ble_eq_true rfl) ?_
  intro G C _ _ q
  unfold f_X8_isMissing at e
  show AW G lo 0 0 0 [(0, .ref (lo + x0))] [] h
  refine a_aload_n C dX8_isMissing_0 rfl 0 rfl ?_
  obtain ⟨g2, e1, e⟩ := bA_some e
  refine a_getI C cb7 1 (by decide) fl_X8_15 rfl dX8_isMissing_1 e1 ?_
  obtain ⟨j4, eb6, e⟩ := bA_some e
  have jj5 : AW G lo 0 0 12 [(0, .ref (lo + x0))] [.int j4] h := by
    obtain ⟨z7, e8, e⟩ := bA_some e
    obtain ⟨rfl, rfl⟩ := sp2 e
    exact a_zret C q (bz_some e8) (Nat.le_of_ble_eq_true rfl) (Nat.le_of_ble_eq_true rfl) dX8_isMissing_12
  have e := eb6
  refine a_if_ge (tgt := 11) C dX8_isMissing_4 (by decide) (fun c3 => ?_) (fun c3 => ?_)
  · have e := ip c3 e
    refine a_iconst (v := (0 : Int32)) C dX8_isMissing_11 (by decide) ?_
    obtain rfl := sp1 e
    exact a_widen (Nat.le_of_ble_eq_true rfl) (Nat.le_of_ble_eq_true rfl) (a_sub [0] rfl jj5)
  · have e := iN c3 e
    refine a_iconst (v := (1 : Int32)) C dX8_isMissing_7 (by decide) ?_
    refine a_goto (tgt := 12) C dX8_isMissing_8 (by decide) ?_
    obtain rfl := sp1 e
    exact a_widen (Nat.le_of_ble_eq_true rfl) (Nat.le_of_ble_eq_true rfl) (a_sub [0] rfl jj5)

set_option maxRecDepth 100000 in
def f_X8_begin_L24 {β : Type} (k : Int32 → Hp → Option (β)) (x0 : Nat) (x1 : Int32) (x2 : Int32) : Nat → Hp → Int32 → Option (β)
  | 0, _, _ => none
  | fuel + 1, h, x3 => bA (gI h x0 7 2) fun g10 => (if g10 ≤ x3 then k x3 h else bA (gN h x0 7 0) fun a13 => bA (ast h a13 0 x3 (0 : Int32)) fun h14 => f_X8_begin_L24 k x0 x1 x2 fuel h14 (x3 + (1 : Int32)))

set_option maxRecDepth 100000 in
def f_X8_begin (h : Hp) (x0 : Nat) (x1 : Int32) (x2 : Int32) : Option (Hp) := bA (pV h x0 7 1 (.inl x1)) fun h2 => bA (gN h2 x0 7 0) fun a4 => bA (aln h2 a4 0) fun n5 => bA (pV h2 x0 7 2 (.inl (if (0 : Int32) < (if n5 < x2 then n5 else x2) then (if n5 < x2 then n5 else x2) else (0 : Int32)))) fun h8 => f_X8_begin_L24 (fun y17 h16 => some h16) x0 x1 x2 2000 h8 (0 : Int32)

theorem m_X8_begin : MI yX8_begin cX8_begin 4 none 2 := ⟨co_X8_begin, ini_X8, by decide, by decide +kernel⟩
set_option maxRecDepth 100000 in
set_option maxHeartbeats 4000000 in
theorem w_X8_begin_L24 {G : Gm} {lo : Nat} {ce sl : Nat} (C : CX G lo cX8_begin RX8 none ({ frames := 1, cells := 0, slots := 0, locals := 24 } : Room) 4) {β : Type} {res : β} {k : Int32 → Hp → Option (β)} {x0 : Nat} {x1 : Int32} {x2 : Int32} (hk : ∀ (h : Hp) (x3 : Int32), k x3 h = some res → AW G lo ce sl 45 [(0, .ref (lo + x0)), (1, .int x1), (2, .int x2), (3, .int x3)] [] h) (hce : ce ≤ 0) (hsl : sl ≤ 0) : ∀ (fuel : Nat) (h : Hp) (x3 : Int32), f_X8_begin_L24 k x0 x1 x2 fuel h x3 = some res → AW G lo ce sl 24 [(0, .ref (lo + x0)), (1, .int x1), (2, .int x2), (3, .int x3)] [] h := by
  intro fuel
  induction fuel with
  | zero =>
    intro h x3 e
    cases (show (none : Option (β)) = some res from e)
  | succ fuel ih =>
    intro h x3 e
    rw [f_X8_begin_L24] at e
    refine a_iload_n C dX8_begin_24 rfl 3 rfl ?_
    refine a_aload_n C dX8_begin_25 rfl 0 rfl ?_
    obtain ⟨g10, e9, e⟩ := bA_some e
    refine a_getI C cb7 2 (by decide) fl_X8_28 rfl dX8_begin_26 e9 ?_
    refine a_icmp_ge (tgt := 45) C dX8_begin_29 (by decide) (fun c11 => ?_) (fun c11 => ?_)
    · have e := ip c11 e
      exact a_sub [0, 1, 2, 3] rfl (hk _ _ e)
    · have e := iN c11 e
      refine a_aload_n C dX8_begin_32 rfl 0 rfl ?_
      obtain ⟨a13, e12, e⟩ := bA_some e
      refine a_getN C cb7 0 (by decide) fl_X8_9 rfl dX8_begin_33 e12 ?_
      refine a_iload_n C dX8_begin_36 rfl 3 rfl ?_
      refine a_iconst (v := (0 : Int32)) C dX8_begin_37 (by decide) ?_
      obtain ⟨h14, e15, e⟩ := bA_some e
      refine a_iast C dX8_begin_38 e15 ?_
      refine a_iinc (v := x3 + (1 : Int32)) (lv2 := [(3, .int (x3 + (1 : Int32))), (0, .ref (lo + x0)), (1, .int x1), (2, .int x2)]) C dX8_begin_39 3 rfl rfl (by decide) rfl ?_
      refine a_goto (tgt := 24) C dX8_begin_42 (by decide) ?_
      exact a_sub [1, 2, 3, 0] rfl (ih _ _ e)
set_option maxRecDepth 100000 in
set_option maxHeartbeats 4000000 in
theorem k_X8_begin {lo : Nat} {h : Hp} {x0 : Nat} {x1 : Int32} {x2 : Int32} {h' : Hp} (e : f_X8_begin h x0 x1 x2 = some h') : ∀ l d, AC l d lo yX8_begin cX8_begin 4 none ({ frames := 1, cells := 0, slots := 0, locals := 24 } : Room) [.ref (lo + x0), .int x1, .int x2] h none h' := by
  intro l d
  refine AC_of (by decide) (Nat.le_of_ble_eq_true rfl) ?_
  intro G C _ _ q
  unfold f_X8_begin at e
  show AW G lo 0 0 0 [(0, .ref (lo + x0)), (1, .int x1), (2, .int x2)] [] h
  refine a_aload_n C dX8_begin_0 rfl 0 rfl ?_
  refine a_iload_n C dX8_begin_1 rfl 1 rfl ?_
  obtain ⟨h2, e1, e⟩ := bA_some e
  refine a_putI C cb7 1 (by decide) fl_X8_15 rfl (by decide +kernel) dX8_begin_2 e1 ?_
  refine a_aload_n C dX8_begin_5 rfl 0 rfl ?_
  refine a_iconst (v := (0 : Int32)) C dX8_begin_6 (by decide) ?_
  refine a_iload_n C dX8_begin_7 rfl 2 rfl ?_
  refine a_aload_n C dX8_begin_8 rfl 0 rfl ?_
  obtain ⟨a4, e3, e⟩ := bA_some e
  refine a_getN C cb7 0 (by decide) fl_X8_9 rfl dX8_begin_9 e3 ?_
  obtain ⟨n5, e6, e⟩ := bA_some e
  refine a_aln C dX8_begin_12 e6 ?_
  refine a_mmin C ml_X8_19 sm_J9_min_7cf53 ini_J9 co_J9_min_7cf53 (Nat.le_of_ble_eq_true rfl) (Nat.le_of_ble_eq_true rfl) (Nat.le_of_ble_eq_true rfl) (Nat.le_of_ble_eq_true rfl) dX8_begin_13 ?_
  refine a_mmax C ml_X8_25 sm_J9_max_7cf53 ini_J9 co_J9_max_7cf53 (Nat.le_of_ble_eq_true rfl) (Nat.le_of_ble_eq_true rfl) (Nat.le_of_ble_eq_true rfl) (Nat.le_of_ble_eq_true rfl) dX8_begin_16 ?_
  obtain ⟨h8, e7, e⟩ := bA_some e
  refine a_putI C cb7 2 (by decide) fl_X8_28 rfl (by decide +kernel) dX8_begin_19 e7 ?_
  refine a_iconst (v := (0 : Int32)) C dX8_begin_22 (by decide) ?_
  refine a_istore_n (lv2 := [(3, .int (0 : Int32)), (0, .ref (lo + x0)), (1, .int x1), (2, .int x2)]) C dX8_begin_23 rfl (by decide) rfl ?_
  refine a_sub [1, 2, 3, 0] rfl (w_X8_begin_L24 C ?_ (Nat.le_of_ble_eq_true rfl) (Nat.le_of_ble_eq_true rfl) 2000 _ _ e)
  intro h16 y17 e
  show AW G lo 0 0 45 [(0, .ref (lo + x0)), (1, .int x1), (2, .int x2), (3, .int y17)] [] h16
  obtain rfl := sp1 e
  exact a_vret C q (Nat.le_of_ble_eq_true rfl) (Nat.le_of_ble_eq_true rfl) dX8_begin_45

set_option maxRecDepth 100000 in
def f_X8_end (h : Hp) (x0 : Nat) : Option (Hp) := bA (pV h x0 7 1 (.inl (-1 : Int32))) fun h2 => bA (pV h2 x0 7 2 (.inl (0 : Int32))) fun h4 => some h4

theorem m_X8_end : MI yX8_end cX8_end 1 none 0 := ⟨co_X8_end, ini_X8, by decide, by decide +kernel⟩
set_option maxRecDepth 100000 in
set_option maxHeartbeats 4000000 in
theorem k_X8_end {lo : Nat} {h : Hp} {x0 : Nat} {h' : Hp} (e : f_X8_end h x0 = some h') : ∀ l d, AC l d lo yX8_end cX8_end 1 none ({ frames := 0, cells := 0, slots := 0, locals := 0 } : Room) [.ref (lo + x0)] h none h' := by
  intro l d
  refine AC_of (by decide) (Nat.le_of_ble_eq_true rfl) ?_
  intro G C _ _ q
  unfold f_X8_end at e
  show AW G lo 0 0 0 [(0, .ref (lo + x0))] [] h
  refine a_aload_n C dX8_end_0 rfl 0 rfl ?_
  refine a_iconst (v := (-1 : Int32)) C dX8_end_1 (by decide) ?_
  obtain ⟨h2, e1, e⟩ := bA_some e
  refine a_putI C cb7 1 (by decide) fl_X8_15 rfl (by decide +kernel) dX8_end_2 e1 ?_
  refine a_aload_n C dX8_end_5 rfl 0 rfl ?_
  refine a_iconst (v := (0 : Int32)) C dX8_end_6 (by decide) ?_
  obtain ⟨h4, e3, e⟩ := bA_some e
  refine a_putI C cb7 2 (by decide) fl_X8_28 rfl (by decide +kernel) dX8_end_7 e3 ?_
  obtain rfl := sp1 e
  exact a_vret C q (Nat.le_of_ble_eq_true rfl) (Nat.le_of_ble_eq_true rfl) dX8_end_10

set_option maxRecDepth 100000 in
def f_X8_holds (h : Hp) (x0 : Nat) (x1 : Int32) (x2 : Int32) : Option (Int32 × Hp) := bA (if x1 < 0 then some (0 : Int32) else (if x2 < 0 then some (0 : Int32) else bA (gI h x0 7 2) fun g7 => (if g7 < x2 then some (0 : Int32) else bA (gI h x0 7 2) fun g10 => (if (g10 - x2) < x1 then some (0 : Int32) else some (1 : Int32))))) fun j2 => bA (bz j2) fun z12 => some (j2, h)

theorem m_X8_holds : MI yX8_holds cX8_holds 3 (some .boolean) 2 := ⟨co_X8_holds, ini_X8, by decide, by decide +kernel⟩
set_option maxRecDepth 100000 in
set_option maxHeartbeats 4000000 in
theorem k_X8_holds {lo : Nat} {h : Hp} {x0 : Nat} {x1 : Int32} {x2 : Int32} {r : Int32} {h' : Hp} (e : f_X8_holds h x0 x1 x2 = some (r, h')) : ∀ l d, AC l d lo yX8_holds cX8_holds 3 (some .boolean) ({ frames := 0, cells := 0, slots := 0, locals := 0 } : Room) [.ref (lo + x0), .int x1, .int x2] h (some (.int r)) h' := by
  intro l d
  refine AC_of (by decide) (Nat.le_of_ble_eq_true rfl) ?_
  intro G C _ _ q
  unfold f_X8_holds at e
  show AW G lo 0 0 0 [(0, .ref (lo + x0)), (1, .int x1), (2, .int x2)] [] h
  refine a_iload_n C dX8_holds_0 rfl 1 rfl ?_
  obtain ⟨j2, eb4, e⟩ := bA_some e
  have jj3 : AW G lo 0 0 31 [(0, .ref (lo + x0)), (1, .int x1), (2, .int x2)] [.int j2] h := by
    obtain ⟨z12, e13, e⟩ := bA_some e
    obtain ⟨rfl, rfl⟩ := sp2 e
    exact a_zret C q (bz_some e13) (Nat.le_of_ble_eq_true rfl) (Nat.le_of_ble_eq_true rfl) dX8_holds_31
  have e := eb4
  refine a_if_lt (tgt := 30) C dX8_holds_1 (by decide) (fun c1 => ?_) (fun c1 => ?_)
  · have e := ip c1 e
    refine a_iconst (v := (0 : Int32)) C dX8_holds_30 (by decide) ?_
    obtain rfl := sp1 e
    exact a_widen (Nat.le_of_ble_eq_true rfl) (Nat.le_of_ble_eq_true rfl) (a_sub [0, 1, 2] rfl jj3)
  · have e := iN c1 e
    refine a_iload_n C dX8_holds_4 rfl 2 rfl ?_
    refine a_if_lt (tgt := 30) C dX8_holds_5 (by decide) (fun c5 => ?_) (fun c5 => ?_)
    · have e := ip c5 e
      refine a_iconst (v := (0 : Int32)) C dX8_holds_30 (by decide) ?_
      obtain rfl := sp1 e
      exact a_widen (Nat.le_of_ble_eq_true rfl) (Nat.le_of_ble_eq_true rfl) (a_sub [0, 1, 2] rfl jj3)
    · have e := iN c5 e
      refine a_iload_n C dX8_holds_8 rfl 2 rfl ?_
      refine a_aload_n C dX8_holds_9 rfl 0 rfl ?_
      obtain ⟨g7, e6, e⟩ := bA_some e
      refine a_getI C cb7 2 (by decide) fl_X8_28 rfl dX8_holds_10 e6 ?_
      refine a_icmp_gt (tgt := 30) C dX8_holds_13 (by decide) (fun c8 => ?_) (fun c8 => ?_)
      · have e := ip c8 e
        refine a_iconst (v := (0 : Int32)) C dX8_holds_30 (by decide) ?_
        obtain rfl := sp1 e
        exact a_widen (Nat.le_of_ble_eq_true rfl) (Nat.le_of_ble_eq_true rfl) (a_sub [0, 1, 2] rfl jj3)
      · have e := iN c8 e
        refine a_iload_n C dX8_holds_16 rfl 1 rfl ?_
        refine a_aload_n C dX8_holds_17 rfl 0 rfl ?_
        obtain ⟨g10, e9, e⟩ := bA_some e
        refine a_getI C cb7 2 (by decide) fl_X8_28 rfl dX8_holds_18 e9 ?_
        refine a_iload_n C dX8_holds_21 rfl 2 rfl ?_
        refine a_isub C dX8_holds_22 ?_
        refine a_icmp_gt (tgt := 30) C dX8_holds_23 (by decide) (fun c11 => ?_) (fun c11 => ?_)
        · have e := ip c11 e
          refine a_iconst (v := (0 : Int32)) C dX8_holds_30 (by decide) ?_
          obtain rfl := sp1 e
          exact a_widen (Nat.le_of_ble_eq_true rfl) (Nat.le_of_ble_eq_true rfl) (a_sub [0, 1, 2] rfl jj3)
        · have e := iN c11 e
          refine a_iconst (v := (1 : Int32)) C dX8_holds_26 (by decide) ?_
          refine a_goto (tgt := 31) C dX8_holds_27 (by decide) ?_
          obtain rfl := sp1 e
          exact a_widen (Nat.le_of_ble_eq_true rfl) (Nat.le_of_ble_eq_true rfl) (a_sub [0, 1, 2] rfl jj3)

set_option maxRecDepth 100000 in
def f_X8_put (h : Hp) (x0 : Nat) (x1 : Int32) (x2 : Int32) : Option (Int32 × Hp) := bA (gI h x0 7 1) fun g2 => bA (if g2 = 0 then some x2.toInt8.toInt32 else bA (gI h x0 7 1) fun g8 => (if g8 = (1 : Int32) then some x2.toInt16.toInt32 else some x2)) fun j4 => bA (isC h x0 7) fun u16 => b2 (f_X8_holds h x0 x1 (1 : Int32)) fun r12 h10 => bA (if r12 = 0 then some h10 else bA (gN h10 x0 7 0) fun a24 => bA (ast h10 a24 0 x1 j4) fun h25 => some h25) fun h20 => some (j4, h20)

theorem m_X8_put : MI yX8_put cX8_put 4 (some .int) 2 := ⟨co_X8_put, ini_X8, by decide, by decide +kernel⟩
set_option maxRecDepth 100000 in
set_option maxHeartbeats 4000000 in
theorem k_X8_put {lo : Nat} {h : Hp} {x0 : Nat} {x1 : Int32} {x2 : Int32} {r : Int32} {h' : Hp} (e : f_X8_put h x0 x1 x2 = some (r, h')) : ∀ l d, AC l d lo yX8_put cX8_put 4 (some .int) ({ frames := 1, cells := 0, slots := 0, locals := 22 } : Room) [.ref (lo + x0), .int x1, .int x2] h (some (.int r)) h' := by
  intro l d
  refine AC_of (by decide) (Nat.le_of_ble_eq_true rfl) ?_
  intro G C _ _ q
  unfold f_X8_put at e
  show AW G lo 0 0 0 [(0, .ref (lo + x0)), (1, .int x1), (2, .int x2)] [] h
  refine a_aload_n C dX8_put_0 rfl 0 rfl ?_
  obtain ⟨g2, e1, e⟩ := bA_some e
  refine a_getI C cb7 1 (by decide) fl_X8_15 rfl dX8_put_1 e1 ?_
  obtain ⟨j4, eb6, e⟩ := bA_some e
  have jj5 : AW G lo 0 0 26 [(0, .ref (lo + x0)), (1, .int x1), (2, .int x2)] [.int j4] h := by
    refine a_istore_n (lv2 := [(3, .int j4), (0, .ref (lo + x0)), (1, .int x1), (2, .int x2)]) C dX8_put_26 rfl (by decide) rfl ?_
    refine a_aload_n C dX8_put_27 rfl 1 rfl ?_
    refine a_iload_n C dX8_put_28 rfl 2 rfl ?_
    refine a_iconst (v := (1 : Int32)) C dX8_put_29 (by decide) ?_
    obtain ⟨u16, ec15, e⟩ := bA_some e
    obtain ⟨fs14, eo13⟩ := isC_some ec15
    obtain ⟨r12, h10, e11, e⟩ := b2_some e
    refine a_callV (as := [.int x1, .int (1 : Int32)]) (rest := []) C m_X8_holds im_X8_holds cb7 se_X8_X8_holds_X8_holds ml_X8_31 rfl (Nat.le_of_ble_eq_true rfl) (Nat.le_of_ble_eq_true rfl) (Nat.le_of_ble_eq_true rfl) (Nat.le_of_ble_eq_true rfl) (Nat.le_of_ble_eq_true rfl) dX8_put_30 eo13 (k_X8_holds e11) rfl ?_
    show AW G lo 0 0 33 [(3, .int j4), (0, .ref (lo + x0)), (1, .int x1), (2, .int x2)] [.int r12] h10
    obtain ⟨h20, eb22, e⟩ := bA_some e
    have jj21 : AW G lo 0 0 43 [(0, .ref (lo + x0)), (1, .int x1), (2, .int x2), (3, .int j4)] [] h20 := by
      refine a_iload_n C dX8_put_43 rfl 3 rfl ?_
      obtain ⟨rfl, rfl⟩ := sp2 e
      exact a_iret C q (Nat.le_of_ble_eq_true rfl) (Nat.le_of_ble_eq_true rfl) dX8_put_44
    have e := eb22
    refine a_if_eq (tgt := 43) C dX8_put_33 (by decide) (fun c19 => ?_) (fun c19 => ?_)
    · have e := ip c19 e
      obtain rfl := sp1 e
      exact a_widen (Nat.le_of_ble_eq_true rfl) (Nat.le_of_ble_eq_true rfl) (a_sub [1, 2, 3, 0] rfl jj21)
    · have e := iN c19 e
      refine a_aload_n C dX8_put_36 rfl 1 rfl ?_
      obtain ⟨a24, e23, e⟩ := bA_some e
      refine a_getN C cb7 0 (by decide) fl_X8_9 rfl dX8_put_37 e23 ?_
      refine a_iload_n C dX8_put_40 rfl 2 rfl ?_
      refine a_iload_n C dX8_put_41 rfl 0 rfl ?_
      obtain ⟨h25, e26, e⟩ := bA_some e
      refine a_iast C dX8_put_42 e26 ?_
      obtain rfl := sp1 e
      exact a_widen (Nat.le_of_ble_eq_true rfl) (Nat.le_of_ble_eq_true rfl) (a_sub [1, 2, 3, 0] rfl jj21)
  have e := eb6
  refine a_if_ne (tgt := 12) C dX8_put_4 (by decide) (fun c3 => ?_) (fun c3 => ?_)
  · have e := iN c3 e
    refine a_aload_n C dX8_put_12 rfl 0 rfl ?_
    obtain ⟨g8, e7, e⟩ := bA_some e
    refine a_getI C cb7 1 (by decide) fl_X8_15 rfl dX8_put_13 e7 ?_
    refine a_iconst (v := (1 : Int32)) C dX8_put_16 (by decide) ?_
    refine a_icmp_ne (tgt := 25) C dX8_put_17 (by decide) (fun c9 => ?_) (fun c9 => ?_)
    · have e := iN c9 e
      refine a_iload_n C dX8_put_25 rfl 2 rfl ?_
      obtain rfl := sp1 e
      exact a_widen (Nat.le_of_ble_eq_true rfl) (Nat.le_of_ble_eq_true rfl) (a_sub [0, 1, 2] rfl jj5)
    · have e := ip c9 e
      refine a_iload_n C dX8_put_20 rfl 2 rfl ?_
      refine a_i2s C dX8_put_21 ?_
      refine a_goto (tgt := 26) C dX8_put_22 (by decide) ?_
      obtain rfl := sp1 e
      exact a_widen (Nat.le_of_ble_eq_true rfl) (Nat.le_of_ble_eq_true rfl) (a_sub [0, 1, 2] rfl jj5)
  · have e := ip c3 e
    refine a_iload_n C dX8_put_7 rfl 2 rfl ?_
    refine a_i2b C dX8_put_8 ?_
    refine a_goto (tgt := 26) C dX8_put_9 (by decide) ?_
    obtain rfl := sp1 e
    exact a_widen (Nat.le_of_ble_eq_true rfl) (Nat.le_of_ble_eq_true rfl) (a_sub [0, 1, 2] rfl jj5)
