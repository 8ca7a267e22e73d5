theorem bn_X11_17 : Cond.methodLinkNest RX11 17 yX7_init RX11 ∈ bwN := by simp [bwN]
theorem bn_X7_17 : Cond.methodLinkNest RX7 17 yX3_init RX11 ∈ bwN := by simp [bwN]
theorem bn_X11_24 : Cond.methodLinkNest RX11 24 yX10_init RX11 ∈ bwN := by simp [bwN]
theorem bn_X10_11 : Cond.methodLinkNest RX10 11 yX3_init RX11 ∈ bwN := by simp [bwN]
theorem bn_X11_69 : Cond.methodLinkNest RX11 69 yX8_init RX11 ∈ bwN := by simp [bwN]
theorem bn_X11_70 : Cond.methodLinkNest RX11 70 yX3_init RX11 ∈ bwN := by simp [bwN]
set_option maxRecDepth 100000 in
def f_X3_init (h : Hp) (x0 : Nat) : Option (Hp) := nw h (.inl (0, 8, fun _ => 0)) fun q2 h1 => bA (pV h1 x0 2 0 (.inr (some q2))) fun h4 => nw h4 (.inl (0, 8, fun _ => 0)) fun q6 h5 => bA (pV h5 x0 2 1 (.inr (some q6))) fun h8 => nw h8 (.inr (.inl (4, 8, fun _ => none))) fun q10 h9 => bA (pV h9 x0 2 2 (.inr (some q10))) fun h12 => some h12

theorem m_X3_init : MI yX3_init cX3_init 1 none 0 := ⟨co_X3_init, ini_X3, by decide, by decide +kernel⟩
set_option maxRecDepth 100000 in
set_option maxHeartbeats 4000000 in
theorem k_X3_init {lo : Nat} {h : Hp} {x0 : Nat} {h' : Hp} (e : f_X3_init h x0 = some h') : ∀ l d, AC l d lo yX3_init cX3_init 1 none ({ frames := 1, cells := 3, slots := 24, locals := 20 } : Room) [.ref (lo + x0)] h none h' := by
  intro l d
  refine AC_of (by decide) (Nat.le_of_ble_eq_true rfl) ?_
  intro G C hN _ q
  unfold f_X3_init at e
  show AW G lo 0 0 0 [(0, .ref (lo + x0))] [] h
  refine a_aload_n C dX3_init_0 rfl 0 rfl ?_
  refine a_objinit C ml_X3_3 im_objinit co_objinit (Nat.le_of_ble_eq_true rfl) (Nat.le_of_ble_eq_true rfl) dX3_init_1 ?_
  refine a_aload_n C dX3_init_4 rfl 0 rfl ?_
  refine a_bipush (v := (8 : Int32)) C dX3_init_5 (by decide) ?_
  refine a_newa (N := 8) C (by decide) (by decide) (Nat.le_of_ble_eq_true rfl) (Nat.le_of_ble_eq_true rfl) (Nat.le_of_ble_eq_true rfl) dX3_init_7 ?_
  obtain ⟨q2, h1, e0_q2, e1_h1, e⟩ := nw_some e
  rw [← e0_q2, ← e1_h1]
  show AW G lo 1 8 9 [(0, .ref (lo + x0))] [.ref (lo + q2), .ref (lo + x0)] h1
  obtain ⟨h4, e3, e⟩ := bA_some e
  refine a_putFR (t := (.array .int)) C hN cb2 0 (by decide) fl_X3_9 rfl rfl (by decide +kernel) rfl rfl dX3_init_9 e3 ?_
  refine a_aload_n C dX3_init_12 rfl 0 rfl ?_
  refine a_bipush (v := (8 : Int32)) C dX3_init_13 (by decide) ?_
  refine a_newa (N := 8) C (by decide) (by decide) (Nat.le_of_ble_eq_true rfl) (Nat.le_of_ble_eq_true rfl) (Nat.le_of_ble_eq_true rfl) dX3_init_15 ?_
  obtain ⟨q6, h5, e0_q6, e1_h5, e⟩ := nw_some e
  rw [← e0_q6, ← e1_h5]
  show AW G lo 2 16 17 [(0, .ref (lo + x0))] [.ref (lo + q6), .ref (lo + x0)] h5
  obtain ⟨h8, e7, e⟩ := bA_some e
  refine a_putFR (t := (.array .int)) C hN cb2 1 (by decide) fl_X3_15 rfl rfl (by decide +kernel) rfl rfl dX3_init_17 e7 ?_
  refine a_aload_n C dX3_init_20 rfl 0 rfl ?_
  refine a_bipush (v := (8 : Int32)) C dX3_init_21 (by decide) ?_
  refine a_newq (N := 8) (t := 4) C (fun _ => rfl) (fun _ _ q => q.2.2.2.2) kl_X3_18 (by decide) (by decide) (Nat.le_of_ble_eq_true rfl) (Nat.le_of_ble_eq_true rfl) (Nat.le_of_ble_eq_true rfl) dX3_init_23 ?_
  obtain ⟨q10, h9, e0_q10, e1_h9, e⟩ := nw_some e
  rw [← e0_q10, ← e1_h9]
  show AW G lo 3 24 26 [(0, .ref (lo + x0))] [.ref (lo + q10), .ref (lo + x0)] h9
  obtain ⟨h12, e11, e⟩ := bA_some e
  refine a_putFR (t := (.array (.object "DoorsBehind$Door"))) C hN cb2 2 (by decide) fl_X3_20 rfl rfl (by decide +kernel) rfl rfl dX3_init_26 e11 ?_
  obtain rfl := sp1 e
  exact a_vret C q (Nat.le_of_ble_eq_true rfl) (Nat.le_of_ble_eq_true rfl) dX3_init_29

set_option maxRecDepth 100000 in
def f_X3_stands (h : Hp) (x0 : Nat) : Option (Int32 × Hp) := bA (gI h x0 2 3) fun g2 => bA (if g2 ≤ 0 then some (0 : Int32) else some (1 : Int32)) fun j4 => bA (bz j4) fun z7 => some (j4, h)

theorem m_X3_stands : MI yX3_stands cX3_stands 1 (some .boolean) 0 := ⟨co_X3_stands, ini_X3, by decide, by decide +kernel⟩
set_option maxRecDepth 100000 in
set_option maxHeartbeats 4000000 in
theorem k_X3_stands {lo : Nat} {h : Hp} {x0 : Nat} {r : Int32} {h' : Hp} (e : f_X3_stands h x0 = some (r, h')) : ∀ l d, AC l d lo yX3_stands cX3_stands 1 (some .boolean) ({ frames := 0, cells := 0, slots := 0, locals := 0 } : Room) [.ref (lo + x0)] h (some (.int r)) h' := by
  intro l d
  refine AC_of (by decide) (Nat.le_of_ble_eq_true rfl) ?_
  intro G C _ _ q
  unfold f_X3_stands at e
  show AW G lo 0 0 0 [(0, .ref (lo + x0))] [] h
  refine a_aload_n C dX3_stands_0 rfl 0 rfl ?_
  obtain ⟨g2, e1, e⟩ := bA_some e
  refine a_getI C cb2 3 (by decide) fl_X3_24 rfl dX3_stands_1 e1 ?_
  obtain ⟨j4, eb6, e⟩ := bA_some e
  have jj5 : AW G lo 0 0 12 [(0, .ref (lo + x0))] [.int j4] h := by
    obtain ⟨z7, e8, e⟩ := bA_some e
    obtain ⟨rfl, rfl⟩ := sp2 e
    exact a_zret C q (bz_some e8) (Nat.le_of_ble_eq_true rfl) (Nat.le_of_ble_eq_true rfl) dX3_stands_12
  have e := eb6
  refine a_if_le (tgt := 11) C dX3_stands_4 (by decide) (fun c3 => ?_) (fun c3 => ?_)
  · have e := ip c3 e
    refine a_iconst (v := (0 : Int32)) C dX3_stands_11 (by decide) ?_
    obtain rfl := sp1 e
    exact a_widen (Nat.le_of_ble_eq_true rfl) (Nat.le_of_ble_eq_true rfl) (a_sub [0] rfl jj5)
  · have e := iN c3 e
    refine a_iconst (v := (1 : Int32)) C dX3_stands_7 (by decide) ?_
    refine a_goto (tgt := 12) C dX3_stands_8 (by decide) ?_
    obtain rfl := sp1 e
    exact a_widen (Nat.le_of_ble_eq_true rfl) (Nat.le_of_ble_eq_true rfl) (a_sub [0] rfl jj5)

set_option maxRecDepth 100000 in
def f_X3_clear (h : Hp) (x0 : Nat) : Option (Hp) := bA (pV h x0 2 3 (.inl (0 : Int32))) fun h2 => bA (pV h2 x0 2 4 (.inl (0 : Int32))) fun h4 => bA (pV h4 x0 2 8 (.inl (0 : Int32))) fun h6 => some h6

theorem m_X3_clear : MI yX3_clear cX3_clear 1 none 0 := ⟨co_X3_clear, ini_X3, by decide, by decide +kernel⟩
set_option maxRecDepth 100000 in
set_option maxHeartbeats 4000000 in
theorem k_X3_clear {lo : Nat} {h : Hp} {x0 : Nat} {h' : Hp} (e : f_X3_clear h x0 = some h') : ∀ l d, AC l d lo yX3_clear cX3_clear 1 none ({ frames := 0, cells := 0, slots := 0, locals := 0 } : Room) [.ref (lo + x0)] h none h' := by
  intro l d
  refine AC_of (by decide) (Nat.le_of_ble_eq_true rfl) ?_
  intro G C _ _ q
  unfold f_X3_clear at e
  show AW G lo 0 0 0 [(0, .ref (lo + x0))] [] h
  refine a_aload_n C dX3_clear_0 rfl 0 rfl ?_
  refine a_iconst (v := (0 : Int32)) C dX3_clear_1 (by decide) ?_
  obtain ⟨h2, e1, e⟩ := bA_some e
  refine a_putI C cb2 3 (by decide) fl_X3_24 rfl (by decide +kernel) dX3_clear_2 e1 ?_
  refine a_aload_n C dX3_clear_5 rfl 0 rfl ?_
  refine a_iconst (v := (0 : Int32)) C dX3_clear_6 (by decide) ?_
  obtain ⟨h4, e3, e⟩ := bA_some e
  refine a_putI C cb2 4 (by decide) fl_X3_28 rfl (by decide +kernel) dX3_clear_7 e3 ?_
  refine a_aload_n C dX3_clear_10 rfl 0 rfl ?_
  refine a_iconst (v := (0 : Int32)) C dX3_clear_11 (by decide) ?_
  obtain ⟨h6, e5, e⟩ := bA_some e
  refine a_putI C cb2 8 (by decide) fl_X3_31 rfl (by decide +kernel) dX3_clear_12 e5 ?_
  obtain rfl := sp1 e
  exact a_vret C q (Nat.le_of_ble_eq_true rfl) (Nat.le_of_ble_eq_true rfl) dX3_clear_15

set_option maxRecDepth 100000 in
def f_X3_become_L32 {β : Type} (k : Int32 → Hp → Option (β)) (x0 : Nat) (x1 : Nat) : Nat → Hp → Int32 → Option (β)
  | 0, _, _ => none
  | fuel + 1, h, x2 => (if (8 : Int32) ≤ x2 then k x2 h else bA (gN h x0 2 2) fun a15 => bA (gN h x1 2 2) fun a17 => bA (aldq h a17 4 x2) fun r19 => bA (astq h a15 4 x2 r19) fun h20 => f_X3_become_L32 k x0 x1 fuel h20 (x2 + (1 : Int32)))

set_option maxRecDepth 100000 in
def f_X3_become (h : Hp) (x0 : Nat) (x1 : Nat) : Option (Hp) := bA (gN h x1 2 0) fun a2 => bA (gN h x0 2 0) fun a4 => bA (acpy h a2 (0 : Int32) a4 (0 : Int32) (8 : Int32)) fun h5 => bA (gN h5 x1 2 1) fun a8 => bA (gN h5 x0 2 1) fun a10 => bA (acpy h5 a8 (0 : Int32) a10 (0 : Int32) (8 : Int32)) fun h11 => f_X3_become_L32 (fun y23 h22 => bA (gI h22 x1 2 3) fun g25 => bA (pV h22 x0 2 3 (.inl g25)) fun h27 => bA (gI h27 x1 2 4) fun g29 => bA (pV h27 x0 2 4 (.inl g29)) fun h31 => bA (gI h31 x1 2 5) fun g33 => bA (pV h31 x0 2 5 (.inl g33)) fun h35 => bA (gI h35 x1 2 6) fun g37 => bA (pV h35 x0 2 6 (.inl g37)) fun h39 => bA (gI h39 x1 2 7) fun g41 => bA (pV h39 x0 2 7 (.inl g41)) fun h43 => bA (gI h43 x1 2 8) fun g45 => bA (pV h43 x0 2 8 (.inl g45)) fun h47 => some h47) x0 x1 2000 h11 (0 : Int32)

theorem m_X3_become : MI yX3_become cX3_become 3 none 1 := ⟨co_X3_become, ini_X3, by decide, by decide +kernel⟩
set_option maxRecDepth 100000 in
set_option maxHeartbeats 4000000 in
theorem w_X3_become_L32 {G : Gm} {lo : Nat} {ce sl : Nat} (C : CX G lo cX3_become RX3 none ({ frames := 1, cells := 0, slots := 0, locals := 80 } : Room) 3) {β : Type} {res : β} {k : Int32 → Hp → Option (β)} {x0 : Nat} {x1 : Nat} (hk : ∀ (h : Hp) (x2 : Int32), k x2 h = some res → AW G lo ce sl 56 [(0, .ref (lo + x0)), (1, .ref (lo + x1)), (2, .int x2)] [] h) (hce : ce ≤ 0) (hsl : sl ≤ 0) : ∀ (fuel : Nat) (h : Hp) (x2 : Int32), f_X3_become_L32 k x0 x1 fuel h x2 = some res → AW G lo ce sl 32 [(0, .ref (lo + x0)), (1, .ref (lo + x1)), (2, .int x2)] [] h := by
  intro fuel
  induction fuel with
  | zero =>
    intro h x2 e
    cases (show (none : Option (β)) = some res from e)
  | succ fuel ih =>
    intro h x2 e
    rw [f_X3_become_L32] at e
    refine a_iload_n C dX3_become_32 rfl 2 rfl ?_
    refine a_bipush (v := (8 : Int32)) C dX3_become_33 (by decide) ?_
    refine a_icmp_ge (tgt := 56) C dX3_become_35 (by decide) (fun c13 => ?_) (fun c13 => ?_)
    · have e := ip c13 e
      exact a_sub [0, 1, 2] rfl (hk _ _ e)
    · have e := iN c13 e
      refine a_aload_n C dX3_become_38 rfl 0 rfl ?_
      obtain ⟨a15, e14, e⟩ := bA_some e
      refine a_getN C cb2 2 (by decide) fl_X3_20 rfl dX3_become_39 e14 ?_
      refine a_iload_n C dX3_become_42 rfl 2 rfl ?_
      refine a_aload_n C dX3_become_43 rfl 1 rfl ?_
      obtain ⟨a17, e16, e⟩ := bA_some e
      refine a_getN C cb2 2 (by decide) fl_X3_20 rfl dX3_become_44 e16 ?_
      refine a_iload_n C dX3_become_47 rfl 2 rfl ?_
      obtain ⟨r19, e18, e⟩ := bA_some e
      refine a_aldq C (by decide) dX3_become_48 e18 ?_
      obtain ⟨h20, e21, e⟩ := bA_some e
      refine a_astq (r := r19) C dX3_become_49 e21 ?_
      refine a_iinc (v := x2 + (1 : Int32)) (lv2 := [(2, .int (x2 + (1 : Int32))), (0, .ref (lo + x0)), (1, .ref (lo + x1))]) C dX3_become_50 2 rfl rfl (by decide) rfl ?_
      refine a_goto (tgt := 32) C dX3_become_53 (by decide) ?_
      exact a_sub [1, 2, 0] rfl (ih _ _ e)
set_option maxRecDepth 100000 in
set_option maxHeartbeats 4000000 in
theorem k_X3_become {lo : Nat} {h : Hp} {x0 : Nat} {x1 : Nat} {h' : Hp} (e : f_X3_become h x0 x1 = some h') : ∀ l d, AC l d lo yX3_become cX3_become 3 none ({ frames := 1, cells := 0, slots := 0, locals := 80 } : Room) [.ref (lo + x0), .ref (lo + x1)] h none h' := by
  intro l d
  refine AC_of (by decide) (Nat.le_of_ble_eq_true rfl) ?_
  intro G C _ _ q
  unfold f_X3_become at e
  show AW G lo 0 0 0 [(0, .ref (lo + x0)), (1, .ref (lo + x1))] [] h
  refine a_aload_n C dX3_become_0 rfl 1 rfl ?_
  obtain ⟨a2, e1, e⟩ := bA_some e
  refine a_getN C cb2 0 (by decide) fl_X3_9 rfl dX3_become_1 e1 ?_
  refine a_iconst (v := (0 : Int32)) C dX3_become_4 (by decide) ?_
  refine a_aload_n C dX3_become_5 rfl 0 rfl ?_
  obtain ⟨a4, e3, e⟩ := bA_some e
  refine a_getN C cb2 0 (by decide) fl_X3_9 rfl dX3_become_6 e3 ?_
  refine a_iconst (v := (0 : Int32)) C dX3_become_9 (by decide) ?_
  refine a_bipush (v := (8 : Int32)) C dX3_become_10 (by decide) ?_
  obtain ⟨h5, e6, e⟩ := bA_some e
  refine a_copy C ml_X3_34 nat_arraycopy sm_arraycopy ini_J10 (Nat.le_of_ble_eq_true rfl) (Nat.le_of_ble_eq_true rfl) dX3_become_12 e6 ?_
  refine a_aload_n C dX3_become_15 rfl 1 rfl ?_
  obtain ⟨a8, e7, e⟩ := bA_some e
  refine a_getN C cb2 1 (by decide) fl_X3_15 rfl dX3_become_16 e7 ?_
  refine a_iconst (v := (0 : Int32)) C dX3_become_19 (by decide) ?_
  refine a_aload_n C dX3_become_20 rfl 0 rfl ?_
  obtain ⟨a10, e9, e⟩ := bA_some e
  refine a_getN C cb2 1 (by decide) fl_X3_15 rfl dX3_become_21 e9 ?_
  refine a_iconst (v := (0 : Int32)) C dX3_become_24 (by decide) ?_
  refine a_bipush (v := (8 : Int32)) C dX3_become_25 (by decide) ?_
  obtain ⟨h11, e12, e⟩ := bA_some e
  refine a_copy C ml_X3_34 nat_arraycopy sm_arraycopy ini_J10 (Nat.le_of_ble_eq_true rfl) (Nat.le_of_ble_eq_true rfl) dX3_become_27 e12 ?_
  refine a_iconst (v := (0 : Int32)) C dX3_become_30 (by decide) ?_
  refine a_istore_n (lv2 := [(2, .int (0 : Int32)), (0, .ref (lo + x0)), (1, .ref (lo + x1))]) C dX3_become_31 rfl (by decide) rfl ?_
  refine a_sub [1, 2, 0] rfl (w_X3_become_L32 C ?_ (Nat.le_of_ble_eq_true rfl) (Nat.le_of_ble_eq_true rfl) 2000 _ _ e)
  intro h22 y23 e
  show AW G lo 0 0 56 [(0, .ref (lo + x0)), (1, .ref (lo + x1)), (2, .int y23)] [] h22
  refine a_aload_n C dX3_become_56 rfl 0 rfl ?_
  refine a_aload_n C dX3_become_57 rfl 1 rfl ?_
  obtain ⟨g25, e24, e⟩ := bA_some e
  refine a_getI C cb2 3 (by decide) fl_X3_24 rfl dX3_become_58 e24 ?_
  obtain ⟨h27, e26, e⟩ := bA_some e
  refine a_putI C cb2 3 (by decide) fl_X3_24 rfl (by decide +kernel) dX3_become_61 e26 ?_
  refine a_aload_n C dX3_become_64 rfl 0 rfl ?_
  refine a_aload_n C dX3_become_65 rfl 1 rfl ?_
  obtain ⟨g29, e28, e⟩ := bA_some e
  refine a_getI C cb2 4 (by decide) fl_X3_28 rfl dX3_become_66 e28 ?_
  obtain ⟨h31, e30, e⟩ := bA_some e
  refine a_putI C cb2 4 (by decide) fl_X3_28 rfl (by decide +kernel) dX3_become_69 e30 ?_
  refine a_aload_n C dX3_become_72 rfl 0 rfl ?_
  refine a_aload_n C dX3_become_73 rfl 1 rfl ?_
  obtain ⟨g33, e32, e⟩ := bA_some e
  refine a_getI C cb2 5 (by decide) fl_X3_40 rfl dX3_become_74 e32 ?_
  obtain ⟨h35, e34, e⟩ := bA_some e
  refine a_putI C cb2 5 (by decide) fl_X3_40 rfl (by decide +kernel) dX3_become_77 e34 ?_
  refine a_aload_n C dX3_become_80 rfl 0 rfl ?_
  refine a_aload_n C dX3_become_81 rfl 1 rfl ?_
  obtain ⟨g37, e36, e⟩ := bA_some e
  refine a_getI C cb2 6 (by decide) fl_X3_43 rfl dX3_become_82 e36 ?_
  obtain ⟨h39, e38, e⟩ := bA_some e
  refine a_putI C cb2 6 (by decide) fl_X3_43 rfl (by decide +kernel) dX3_become_85 e38 ?_
  refine a_aload_n C dX3_become_88 rfl 0 rfl ?_
  refine a_aload_n C dX3_become_89 rfl 1 rfl ?_
  obtain ⟨g41, e40, e⟩ := bA_some e
  refine a_getI C cb2 7 (by decide) fl_X3_46 rfl dX3_become_90 e40 ?_
  obtain ⟨h43, e42, e⟩ := bA_some e
  refine a_putI C cb2 7 (by decide) fl_X3_46 rfl (by decide +kernel) dX3_become_93 e42 ?_
  refine a_aload_n C dX3_become_96 rfl 0 rfl ?_
  refine a_aload_n C dX3_become_97 rfl 1 rfl ?_
  obtain ⟨g45, e44, e⟩ := bA_some e
  refine a_getI C cb2 8 (by decide) fl_X3_31 rfl dX3_become_98 e44 ?_
  obtain ⟨h47, e46, e⟩ := bA_some e
  refine a_putI C cb2 8 (by decide) fl_X3_31 rfl (by decide +kernel) dX3_become_101 e46 ?_
  obtain rfl := sp1 e
  exact a_vret C q (Nat.le_of_ble_eq_true rfl) (Nat.le_of_ble_eq_true rfl) dX3_become_104

set_option maxRecDepth 100000 in
def f_X3_lacksRoom (h : Hp) (x0 : Nat) (x1 : Int32) : Option (Int32 × Hp) := bA (if x1 < 0 then some (1 : Int32) else bA (gI h x0 2 3) fun g6 => (if g6 ≤ x1 then some (1 : Int32) else (if x1 < (8 : Int32) then some (0 : Int32) else some (1 : Int32)))) fun j2 => bA (bz j2) fun z9 => some (j2, h)

theorem m_X3_lacksRoom : MI yX3_lacksRoom cX3_lacksRoom 2 (some .boolean) 1 := ⟨co_X3_lacksRoom, ini_X3, by decide, by decide +kernel⟩
set_option maxRecDepth 100000 in
set_option maxHeartbeats 4000000 in
theorem k_X3_lacksRoom {lo : Nat} {h : Hp} {x0 : Nat} {x1 : Int32} {r : Int32} {h' : Hp} (e : f_X3_lacksRoom h x0 x1 = some (r, h')) : ∀ l d, AC l d lo yX3_lacksRoom cX3_lacksRoom 2 (some .boolean) ({ frames := 0, cells := 0, slots := 0, locals := 0 } : Room) [.ref (lo + x0), .int x1] h (some (.int r)) h' := by
  intro l d
  refine AC_of (by decide) (Nat.le_of_ble_eq_true rfl) ?_
  intro G C _ _ q
  unfold f_X3_lacksRoom at e
  show AW G lo 0 0 0 [(0, .ref (lo + x0)), (1, .int x1)] [] h
  refine a_iload_n C dX3_lacksRoom_0 rfl 1 rfl ?_
  obtain ⟨j2, eb4, e⟩ := bA_some e
  have jj3 : AW G lo 0 0 23 [(0, .ref (lo + x0)), (1, .int x1)] [.int j2] h := by
    obtain ⟨z9, e10, e⟩ := bA_some e
    obtain ⟨rfl, rfl⟩ := sp2 e
    exact a_zret C q (bz_some e10) (Nat.le_of_ble_eq_true rfl) (Nat.le_of_ble_eq_true rfl) dX3_lacksRoom_23
  have e := eb4
  refine a_if_lt (tgt := 18) C dX3_lacksRoom_1 (by decide) (fun c1 => ?_) (fun c1 => ?_)
  · have e := ip c1 e
    refine a_iconst (v := (1 : Int32)) C dX3_lacksRoom_18 (by decide) ?_
    refine a_goto (tgt := 23) C dX3_lacksRoom_19 (by decide) ?_
    obtain rfl := sp1 e
    exact a_widen (Nat.le_of_ble_eq_true rfl) (Nat.le_of_ble_eq_true rfl) (a_sub [0, 1] rfl jj3)
  · have e := iN c1 e
    refine a_iload_n C dX3_lacksRoom_4 rfl 1 rfl ?_
    refine a_aload_n C dX3_lacksRoom_5 rfl 0 rfl ?_
    obtain ⟨g6, e5, e⟩ := bA_some e
    refine a_getI C cb2 3 (by decide) fl_X3_24 rfl dX3_lacksRoom_6 e5 ?_
    refine a_icmp_ge (tgt := 18) C dX3_lacksRoom_9 (by decide) (fun c7 => ?_) (fun c7 => ?_)
    · have e := ip c7 e
      refine a_iconst (v := (1 : Int32)) C dX3_lacksRoom_18 (by decide) ?_
      refine a_goto (tgt := 23) C dX3_lacksRoom_19 (by decide) ?_
      obtain rfl := sp1 e
      exact a_widen (Nat.le_of_ble_eq_true rfl) (Nat.le_of_ble_eq_true rfl) (a_sub [0, 1] rfl jj3)
    · have e := iN c7 e
      refine a_iload_n C dX3_lacksRoom_12 rfl 1 rfl ?_
      refine a_bipush (v := (8 : Int32)) C dX3_lacksRoom_13 (by decide) ?_
      refine a_icmp_lt (tgt := 22) C dX3_lacksRoom_15 (by decide) (fun c8 => ?_) (fun c8 => ?_)
      · have e := ip c8 e
        refine a_iconst (v := (0 : Int32)) C dX3_lacksRoom_22 (by decide) ?_
        obtain rfl := sp1 e
        exact a_widen (Nat.le_of_ble_eq_true rfl) (Nat.le_of_ble_eq_true rfl) (a_sub [0, 1] rfl jj3)
      · have e := iN c8 e
        refine a_iconst (v := (1 : Int32)) C dX3_lacksRoom_18 (by decide) ?_
        refine a_goto (tgt := 23) C dX3_lacksRoom_19 (by decide) ?_
        obtain rfl := sp1 e
        exact a_widen (Nat.le_of_ble_eq_true rfl) (Nat.le_of_ble_eq_true rfl) (a_sub [0, 1] rfl jj3)

set_option maxRecDepth 100000 in
def f_X3_lacksDoor (h : Hp) (x0 : Nat) (x1 : Int32) : Option (Int32 × Hp) := bA (if x1 < 0 then some (1 : Int32) else bA (gI h x0 2 4) fun g6 => (if g6 ≤ x1 then some (1 : Int32) else (if x1 < (8 : Int32) then some (0 : Int32) else some (1 : Int32)))) fun j2 => bA (bz j2) fun z9 => some (j2, h)

theorem m_X3_lacksDoor : MI yX3_lacksDoor cX3_lacksDoor 2 (some .boolean) 1 := ⟨co_X3_lacksDoor, ini_X3, by decide, by decide +kernel⟩
set_option maxRecDepth 100000 in
set_option maxHeartbeats 4000000 in
theorem k_X3_lacksDoor {lo : Nat} {h : Hp} {x0 : Nat} {x1 : Int32} {r : Int32} {h' : Hp} (e : f_X3_lacksDoor h x0 x1 = some (r, h')) : ∀ l d, AC l d lo yX3_lacksDoor cX3_lacksDoor 2 (some .boolean) ({ frames := 0, cells := 0, slots := 0, locals := 0 } : Room) [.ref (lo + x0), .int x1] h (some (.int r)) h' := by
  intro l d
  refine AC_of (by decide) (Nat.le_of_ble_eq_true rfl) ?_
  intro G C _ _ q
  unfold f_X3_lacksDoor at e
  show AW G lo 0 0 0 [(0, .ref (lo + x0)), (1, .int x1)] [] h
  refine a_iload_n C dX3_lacksDoor_0 rfl 1 rfl ?_
  obtain ⟨j2, eb4, e⟩ := bA_some e
  have jj3 : AW G lo 0 0 23 [(0, .ref (lo + x0)), (1, .int x1)] [.int j2] h := by
    obtain ⟨z9, e10, e⟩ := bA_some e
    obtain ⟨rfl, rfl⟩ := sp2 e
    exact a_zret C q (bz_some e10) (Nat.le_of_ble_eq_true rfl) (Nat.le_of_ble_eq_true rfl) dX3_lacksDoor_23
  have e := eb4
  refine a_if_lt (tgt := 18) C dX3_lacksDoor_1 (by decide) (fun c1 => ?_) (fun c1 => ?_)
  · have e := ip c1 e
    refine a_iconst (v := (1 : Int32)) C dX3_lacksDoor_18 (by decide) ?_
    refine a_goto (tgt := 23) C dX3_lacksDoor_19 (by decide) ?_
    obtain rfl := sp1 e
    exact a_widen (Nat.le_of_ble_eq_true rfl) (Nat.le_of_ble_eq_true rfl) (a_sub [0, 1] rfl jj3)
  · have e := iN c1 e
    refine a_iload_n C dX3_lacksDoor_4 rfl 1 rfl ?_
    refine a_aload_n C dX3_lacksDoor_5 rfl 0 rfl ?_
    obtain ⟨g6, e5, e⟩ := bA_some e
    refine a_getI C cb2 4 (by decide) fl_X3_28 rfl dX3_lacksDoor_6 e5 ?_
    refine a_icmp_ge (tgt := 18) C dX3_lacksDoor_9 (by decide) (fun c7 => ?_) (fun c7 => ?_)
    · have e := ip c7 e
      refine a_iconst (v := (1 : Int32)) C dX3_lacksDoor_18 (by decide) ?_
      refine a_goto (tgt := 23) C dX3_lacksDoor_19 (by decide) ?_
      obtain rfl := sp1 e
      exact a_widen (Nat.le_of_ble_eq_true rfl) (Nat.le_of_ble_eq_true rfl) (a_sub [0, 1] rfl jj3)
    · have e := iN c7 e
      refine a_iload_n C dX3_lacksDoor_12 rfl 1 rfl ?_
      refine a_bipush (v := (8 : Int32)) C dX3_lacksDoor_13 (by decide) ?_
      refine a_icmp_lt (tgt := 22) C dX3_lacksDoor_15 (by decide) (fun c8 => ?_) (fun c8 => ?_)
      · have e := ip c8 e
        refine a_iconst (v := (0 : Int32)) C dX3_lacksDoor_22 (by decide) ?_
        obtain rfl := sp1 e
        exact a_widen (Nat.le_of_ble_eq_true rfl) (Nat.le_of_ble_eq_true rfl) (a_sub [0, 1] rfl jj3)
      · have e := iN c8 e
        refine a_iconst (v := (1 : Int32)) C dX3_lacksDoor_18 (by decide) ?_
        refine a_goto (tgt := 23) C dX3_lacksDoor_19 (by decide) ?_
        obtain rfl := sp1 e
        exact a_widen (Nat.le_of_ble_eq_true rfl) (Nat.le_of_ble_eq_true rfl) (a_sub [0, 1] rfl jj3)

set_option maxRecDepth 100000 in
def f_X3_doorAt (h : Hp) (x0 : Nat) (x1 : Int32) : Option (Option Nat × Hp) := bA (isC h x0 2) fun u7 => b2 (f_X3_lacksDoor h x0 x1) fun r3 h1 => bA (if r3 = 0 then bA (gN h1 x0 2 2) fun a15 => bA (aldq h1 a15 4 x1) fun r17 => some r17 else some none) fun j11 => some (j11, h1)

theorem m_X3_doorAt : MI yX3_doorAt cX3_doorAt 2 (some (.object "DoorsBehind$Door")) 1 := ⟨co_X3_doorAt, ini_X3, by decide, by decide +kernel⟩
set_option maxRecDepth 100000 in
set_option maxHeartbeats 4000000 in
theorem k_X3_doorAt {lo : Nat} {h : Hp} {x0 : Nat} {x1 : Int32} {r : Option Nat} {h' : Hp} (e : f_X3_doorAt h x0 x1 = some (r, h')) : ∀ l d, AC l d lo yX3_doorAt cX3_doorAt 2 (some (.object "DoorsBehind$Door")) ({ frames := 1, cells := 0, slots := 0, locals := 21 } : Room) [.ref (lo + x0), .int x1] h (some (va_rf (rl lo r))) h' := by
  intro l d
  refine AC_of (by decide) (Nat.le_of_ble_eq_true rfl) ?_
  intro G C _ _ q
  unfold f_X3_doorAt at e
  show AW G lo 0 0 0 [(0, .ref (lo + x0)), (1, .int x1)] [] h
  refine a_aload_n C dX3_doorAt_0 rfl 0 rfl ?_
  refine a_iload_n C dX3_doorAt_1 rfl 1 rfl ?_
  obtain ⟨u7, ec6, e⟩ := bA_some e
  obtain ⟨fs5, eo4⟩ := isC_some ec6
  obtain ⟨r3, h1, e2, e⟩ := b2_some e
  refine a_callV (as := [.int x1]) (rest := []) C m_X3_lacksDoor im_X3_lacksDoor cb2 se_X3_X3_lacksDoor_X3_lacksDoor ml_X3_49 rfl (Nat.le_of_ble_eq_true rfl) (Nat.le_of_ble_eq_true rfl) (Nat.le_of_ble_eq_true rfl) (Nat.le_of_ble_eq_true rfl) (Nat.le_of_ble_eq_true rfl) dX3_doorAt_2 eo4 (k_X3_lacksDoor e2) rfl ?_
  show AW G lo 0 0 5 [(0, .ref (lo + x0)), (1, .int x1)] [.int r3] h1
  obtain ⟨j11, eb13, e⟩ := bA_some e
  have jj12 : AW G lo 0 0 18 [(0, .ref (lo + x0)), (1, .int x1)] [va_rf (rl lo j11)] h1 := by
    obtain ⟨rfl, rfl⟩ := sp2 e
    exact a_aret C q (Nat.le_of_ble_eq_true rfl) (Nat.le_of_ble_eq_true rfl) dX3_doorAt_18
  have e := eb13
  refine a_if_eq (tgt := 12) C dX3_doorAt_5 (by decide) (fun c10 => ?_) (fun c10 => ?_)
  · have e := ip c10 e
    refine a_aload_n C dX3_doorAt_12 rfl 0 rfl ?_
    obtain ⟨a15, e14, e⟩ := bA_some e
    refine a_getN C cb2 2 (by decide) fl_X3_20 rfl dX3_doorAt_13 e14 ?_
    refine a_iload_n C dX3_doorAt_16 rfl 1 rfl ?_
    obtain ⟨r17, e16, e⟩ := bA_some e
    refine a_aldq C (by decide) dX3_doorAt_17 e16 ?_
    obtain rfl := sp1 e
    exact a_widen (Nat.le_of_ble_eq_true rfl) (Nat.le_of_ble_eq_true rfl) (a_sub [0, 1] rfl jj12)
  · have e := iN c10 e
    refine a_null C dX3_doorAt_8 ?_
    refine a_goto (tgt := 18) C dX3_doorAt_9 (by decide) ?_
    obtain rfl := sp1 e
    exact a_widen (Nat.le_of_ble_eq_true rfl) (Nat.le_of_ble_eq_true rfl) (a_sub [0, 1] rfl jj12)

set_option maxRecDepth 100000 in
def f_X3_addRoom (h : Hp) (x0 : Nat) (x1 : Int32) : Option (Hp) := bA (gI h x0 2 3) fun g2 => bA (if (8 : Int32) ≤ g2 then some h else bA (gN h x0 2 0) fun a8 => bA (gI h x0 2 3) fun g10 => bA (ast h a8 0 g10 x1) fun h11 => bA (gI h11 x0 2 3) fun g14 => bA (pV h11 x0 2 3 (.inl (g14 + (1 : Int32)))) fun h16 => some h16) fun h4 => some h4

theorem m_X3_addRoom : MI yX3_addRoom cX3_addRoom 2 none 1 := ⟨co_X3_addRoom, ini_X3, by decide, by decide +kernel⟩
set_option maxRecDepth 100000 in
set_option maxHeartbeats 4000000 in
theorem k_X3_addRoom {lo : Nat} {h : Hp} {x0 : Nat} {x1 : Int32} {h' : Hp} (e : f_X3_addRoom h x0 x1 = some h') : ∀ l d, AC l d lo yX3_addRoom cX3_addRoom 2 none ({ frames := 0, cells := 0, slots := 0, locals := 0 } : Room) [.ref (lo + x0), .int x1] h none h' := by
  intro l d
  refine AC_of (by decide) (Nat.le_of_ble_eq_true rfl) ?_
  intro G C _ _ q
  unfold f_X3_addRoom at e
  show AW G lo 0 0 0 [(0, .ref (lo + x0)), (1, .int x1)] [] h
  refine a_aload_n C dX3_addRoom_0 rfl 0 rfl ?_
  obtain ⟨g2, e1, e⟩ := bA_some e
  refine a_getI C cb2 3 (by decide) fl_X3_24 rfl dX3_addRoom_1 e1 ?_
  refine a_bipush (v := (8 : Int32)) C dX3_addRoom_4 (by decide) ?_
  obtain ⟨h4, eb6, e⟩ := bA_some e
  have jj5 : AW G lo 0 0 29 [(0, .ref (lo + x0)), (1, .int x1)] [] h4 := by
    obtain rfl := sp1 e
    exact a_vret C q (Nat.le_of_ble_eq_true rfl) (Nat.le_of_ble_eq_true rfl) dX3_addRoom_29
  have e := eb6
  refine a_icmp_ge (tgt := 29) C dX3_addRoom_6 (by decide) (fun c3 => ?_) (fun c3 => ?_)
  · have e := ip c3 e
    obtain rfl := sp1 e
    exact a_widen (Nat.le_of_ble_eq_true rfl) (Nat.le_of_ble_eq_true rfl) (a_sub [0, 1] rfl jj5)
  · have e := iN c3 e
    refine a_aload_n C dX3_addRoom_9 rfl 0 rfl ?_
    obtain ⟨a8, e7, e⟩ := bA_some e
    refine a_getN C cb2 0 (by decide) fl_X3_9 rfl dX3_addRoom_10 e7 ?_
    refine a_aload_n C dX3_addRoom_13 rfl 0 rfl ?_
    obtain ⟨g10, e9, e⟩ := bA_some e
    refine a_getI C cb2 3 (by decide) fl_X3_24 rfl dX3_addRoom_14 e9 ?_
    refine a_iload_n C dX3_addRoom_17 rfl 1 rfl ?_
    obtain ⟨h11, e12, e⟩ := bA_some e
    refine a_iast C dX3_addRoom_18 e12 ?_
    refine a_aload_n C dX3_addRoom_19 rfl 0 rfl ?_
    refine a_dup C dX3_addRoom_20 rfl ?_
    obtain ⟨g14, e13, e⟩ := bA_some e
    refine a_getI C cb2 3 (by decide) fl_X3_24 rfl dX3_addRoom_21 e13 ?_
    refine a_iconst (v := (1 : Int32)) C dX3_addRoom_24 (by decide) ?_
    refine a_iadd C dX3_addRoom_25 ?_
    obtain ⟨h16, e15, e⟩ := bA_some e
    refine a_putI C cb2 3 (by decide) fl_X3_24 rfl (by decide +kernel) dX3_addRoom_26 e15 ?_
    obtain rfl := sp1 e
    exact a_widen (Nat.le_of_ble_eq_true rfl) (Nat.le_of_ble_eq_true rfl) (a_sub [0, 1] rfl jj5)

set_option maxRecDepth 100000 in
def f_X3_addDoor (h : Hp) (x0 : Nat) (x1 : Int32) (x2 : Int32) (x3 : Int32) (x4 : Int32) : Option (Hp) := bA (gI h x0 2 4) fun g2 => bA (if (8 : Int32) ≤ g2 then some h else bA (gN h x0 2 2) fun a8 => bA (gI h x0 2 4) fun g10 => bA (gI h x0 2 4) fun g12 => b2 (f_X2_of h x1 g12 x2 x3 x4) fun r15 h13 => bA (astq h13 a8 4 g10 r15) fun h21 => bA (gN h21 x0 2 1) fun a24 => bA (gI h21 x0 2 4) fun g26 => bA (ast h21 a24 0 g26 (0 : Int32)) fun h27 => bA (gI h27 x0 2 4) fun g30 => bA (pV h27 x0 2 4 (.inl (g30 + (1 : Int32)))) fun h32 => some h32) fun h4 => some h4

theorem m_X3_addDoor : MI yX3_addDoor cX3_addDoor 5 none 4 := ⟨co_X3_addDoor, ini_X3, by decide, by decide +kernel⟩
set_option maxRecDepth 100000 in
set_option maxHeartbeats 4000000 in
theorem k_X3_addDoor {lo : Nat} {h : Hp} {x0 : Nat} {x1 : Int32} {x2 : Int32} {x3 : Int32} {x4 : Int32} {h' : Hp} (e : f_X3_addDoor h x0 x1 x2 x3 x4 = some h') : ∀ l d, AC l d lo yX3_addDoor cX3_addDoor 5 none ({ frames := 5, cells := 1, slots := 4, locals := 116 } : Room) [.ref (lo + x0), .int x1, .int x2, .int x3, .int x4] h none h' := by
  intro l d
  refine AC_of (by decide) (Nat.le_of_ble_eq_true rfl) ?_
  intro G C _ _ q
  unfold f_X3_addDoor at e
  show AW G lo 0 0 0 [(0, .ref (lo + x0)), (1, .int x1), (2, .int x2), (3, .int x3), (4, .int x4)] [] h
  refine a_aload_n C dX3_addDoor_0 rfl 0 rfl ?_
  obtain ⟨g2, e1, e⟩ := bA_some e
  refine a_getI C cb2 4 (by decide) fl_X3_28 rfl dX3_addDoor_1 e1 ?_
  refine a_bipush (v := (8 : Int32)) C dX3_addDoor_4 (by decide) ?_
  obtain ⟨h4, eb6, e⟩ := bA_some e
  have jj5 : AW G lo 1 4 50 [(0, .ref (lo + x0)), (1, .int x1), (2, .int x2), (3, .int x3), (4, .int x4)] [] h4 := by
    obtain rfl := sp1 e
    exact a_vret C q (Nat.le_of_ble_eq_true rfl) (Nat.le_of_ble_eq_true rfl) dX3_addDoor_50
  have e := eb6
  refine a_icmp_ge (tgt := 50) C dX3_addDoor_6 (by decide) (fun c3 => ?_) (fun c3 => ?_)
  · have e := ip c3 e
    obtain rfl := sp1 e
    exact a_widen (Nat.le_of_ble_eq_true rfl) (Nat.le_of_ble_eq_true rfl) (a_sub [0, 1, 2, 3, 4] rfl jj5)
  · have e := iN c3 e
    refine a_aload_n C dX3_addDoor_9 rfl 0 rfl ?_
    obtain ⟨a8, e7, e⟩ := bA_some e
    refine a_getN C cb2 2 (by decide) fl_X3_20 rfl dX3_addDoor_10 e7 ?_
    refine a_aload_n C dX3_addDoor_13 rfl 0 rfl ?_
    obtain ⟨g10, e9, e⟩ := bA_some e
    refine a_getI C cb2 4 (by decide) fl_X3_28 rfl dX3_addDoor_14 e9 ?_
    refine a_iload_n C dX3_addDoor_17 rfl 1 rfl ?_
    refine a_aload_n C dX3_addDoor_18 rfl 0 rfl ?_
    obtain ⟨g12, e11, e⟩ := bA_some e
    refine a_getI C cb2 4 (by decide) fl_X3_28 rfl dX3_addDoor_19 e11 ?_
    refine a_iload_n C dX3_addDoor_22 rfl 2 rfl ?_
    refine a_iload_n C dX3_addDoor_23 rfl 3 rfl ?_
    refine a_iload C dX3_addDoor_24 4 rfl ?_
    obtain ⟨r15, h13, e14, e⟩ := b2_some e
    refine a_callS (as := [.int x1, .int g12, .int x2, .int x3, .int x4]) (rest := [.int g10, .ref (lo + a8)]) C m_X2_of sm_X2_of ml_X3_53 rfl (Nat.le_of_ble_eq_true rfl) (Nat.le_of_ble_eq_true rfl) (Nat.le_of_ble_eq_true rfl) (Nat.le_of_ble_eq_true rfl) (Nat.le_of_ble_eq_true rfl) dX3_addDoor_26 (k_X2_of e14) rfl ?_
    show AW G lo 1 4 29 [(0, .ref (lo + x0)), (1, .int x1), (2, .int x2), (3, .int x3), (4, .int x4)] [va_rf (rl lo r15), .int g10, .ref (lo + a8)] h13
    obtain ⟨h21, e22, e⟩ := bA_some e
    refine a_astq (r := r15) C dX3_addDoor_29 e22 ?_
    refine a_aload_n C dX3_addDoor_30 rfl 0 rfl ?_
    obtain ⟨a24, e23, e⟩ := bA_some e
    refine a_getN C cb2 1 (by decide) fl_X3_15 rfl dX3_addDoor_31 e23 ?_
    refine a_aload_n C dX3_addDoor_34 rfl 0 rfl ?_
    obtain ⟨g26, e25, e⟩ := bA_some e
    refine a_getI C cb2 4 (by decide) fl_X3_28 rfl dX3_addDoor_35 e25 ?_
    refine a_iconst (v := (0 : Int32)) C dX3_addDoor_38 (by decide) ?_
    obtain ⟨h27, e28, e⟩ := bA_some e
    refine a_iast C dX3_addDoor_39 e28 ?_
    refine a_aload_n C dX3_addDoor_40 rfl 0 rfl ?_
    refine a_dup C dX3_addDoor_41 rfl ?_
    obtain ⟨g30, e29, e⟩ := bA_some e
    refine a_getI C cb2 4 (by decide) fl_X3_28 rfl dX3_addDoor_42 e29 ?_
    refine a_iconst (v := (1 : Int32)) C dX3_addDoor_45 (by decide) ?_
    refine a_iadd C dX3_addDoor_46 ?_
    obtain ⟨h32, e31, e⟩ := bA_some e
    refine a_putI C cb2 4 (by decide) fl_X3_28 rfl (by decide +kernel) dX3_addDoor_47 e31 ?_
    obtain rfl := sp1 e
    exact a_widen (Nat.le_of_ble_eq_true rfl) (Nat.le_of_ble_eq_true rfl) (a_sub [0, 1, 2, 3, 4] rfl jj5)

set_option maxRecDepth 100000 in
def f_X3_sortOf (h : Hp) (x0 : Nat) (x1 : Int32) : Option (Int32 × Hp) := bA (isC h x0 2) fun u7 => b2 (f_X3_doorAt h x0 x1) fun r3 h1 => b2 (match r3 with | none => some ((0 : Int32), h1) | some a10 => bA (gC h1 a10) fun c21 => b2 (v_X2_sort c21 h1 a10 ) fun r17 h15 => some (r17, h15)) fun j11 h12 => some (j11, h12)

theorem m_X3_sortOf : MI yX3_sortOf cX3_sortOf 3 (some .int) 1 := ⟨co_X3_sortOf, ini_X3, by decide, by decide +kernel⟩
set_option maxRecDepth 100000 in
set_option maxHeartbeats 4000000 in
theorem k_X3_sortOf {lo : Nat} {h : Hp} {x0 : Nat} {x1 : Int32} {r : Int32} {h' : Hp} (e : f_X3_sortOf h x0 x1 = some (r, h')) : ∀ l d, AC l d lo yX3_sortOf cX3_sortOf 3 (some .int) ({ frames := 2, cells := 0, slots := 0, locals := 42 } : Room) [.ref (lo + x0), .int x1] h (some (.int r)) h' := by
  intro l d
  refine AC_of (by decide) (Nat.le_of_ble_eq_true rfl) ?_
  intro G C _ _ q
  unfold f_X3_sortOf at e
  show AW G lo 0 0 0 [(0, .ref (lo + x0)), (1, .int x1)] [] h
  refine a_aload_n C dX3_sortOf_0 rfl 0 rfl ?_
  refine a_iload_n C dX3_sortOf_1 rfl 1 rfl ?_
  obtain ⟨u7, ec6, e⟩ := bA_some e
  obtain ⟨fs5, eo4⟩ := isC_some ec6
  obtain ⟨r3, h1, e2, e⟩ := b2_some e
  refine a_callV (as := [.int x1]) (rest := []) C m_X3_doorAt im_X3_doorAt cb2 se_X3_X3_doorAt_X3_doorAt ml_X3_57 rfl (Nat.le_of_ble_eq_true rfl) (Nat.le_of_ble_eq_true rfl) (Nat.le_of_ble_eq_true rfl) (Nat.le_of_ble_eq_true rfl) (Nat.le_of_ble_eq_true rfl) dX3_sortOf_2 eo4 (k_X3_doorAt e2) rfl ?_
  show AW G lo 0 0 5 [(0, .ref (lo + x0)), (1, .int x1)] [va_rf (rl lo r3)] h1
  obtain ⟨j11, h12, eb14, e⟩ := b2_some e
  have jj13 : AW G lo 0 0 18 [(0, .ref (lo + x0)), (1, .int x1)] [.int j11] h12 := by
    obtain ⟨rfl, rfl⟩ := sp2 e
    exact a_iret C q (Nat.le_of_ble_eq_true rfl) (Nat.le_of_ble_eq_true rfl) dX3_sortOf_18
  have e := eb14
  rcases r3 with _ | a10
  · show AW G lo 0 0 5 [(0, .ref (lo + x0)), (1, .int x1)] [.null] h1
    refine a_astore_nN (lv2 := [(2, .null), (0, .ref (lo + x0)), (1, .int x1)]) C dX3_sortOf_5 rfl (by decide) rfl ?_
    refine a_aload_nN C dX3_sortOf_6 rfl 0 rfl ?_
    refine a_ifnonnullN C dX3_sortOf_7 ?_
    refine a_iconst (v := (0 : Int32)) C dX3_sortOf_10 (by decide) ?_
    refine a_goto (tgt := 18) C dX3_sortOf_11 (by decide) ?_
    obtain ⟨rfl, rfl⟩ := sp2 e
    exact a_widen (Nat.le_of_ble_eq_true rfl) (Nat.le_of_ble_eq_true rfl) (a_sub [1, 2] rfl jj13)
  · show AW G lo 0 0 5 [(0, .ref (lo + x0)), (1, .int x1)] [.ref (lo + a10)] h1
    refine a_astore_n (lv2 := [(2, .ref (lo + a10)), (0, .ref (lo + x0)), (1, .int x1)]) C dX3_sortOf_5 rfl (by decide) rfl ?_
    refine a_aload_n C dX3_sortOf_6 rfl 0 rfl ?_
    refine a_ifnonnull (tgt := 14) C dX3_sortOf_7 (by decide) ?_
    refine a_aload_n C dX3_sortOf_14 rfl 0 rfl ?_
    obtain ⟨c21, ec20, e⟩ := bA_some e
    obtain ⟨fs19, eo18, ed22⟩ := gC_some ec20
    obtain ⟨r17, h15, e16, e⟩ := b2_some e
    refine a_callD (as := []) (rest := []) C (vd_X2_sort e16) sam_X2_X2_sort du_X2_sort (by decide) ml_X3_61 (Nat.le_of_ble_eq_true rfl) (Nat.le_of_ble_eq_true rfl) (Nat.le_of_ble_eq_true rfl) (Nat.le_of_ble_eq_true rfl) (Nat.le_of_ble_eq_true rfl) dX3_sortOf_15 eo18 rfl ?_
    show AW G lo 0 0 18 [(2, .ref (lo + a10)), (0, .ref (lo + x0)), (1, .int x1)] [.int r17] h15
    obtain ⟨rfl, rfl⟩ := sp2 e
    exact a_widen (Nat.le_of_ble_eq_true rfl) (Nat.le_of_ble_eq_true rfl) (a_sub [1, 2] rfl jj13)

set_option maxRecDepth 100000 in
def f_X3_numberOf (h : Hp) (x0 : Nat) (x1 : Int32) : Option (Int32 × Hp) := bA (isC h x0 2) fun u7 => b2 (f_X3_doorAt h x0 x1) fun r3 h1 => bA (match r3 with | none => some (0 : Int32) | some a10 => bA (gD h1 a10 3) fun g15 => some g15) fun j11 => some (j11, h1)

theorem m_X3_numberOf : MI yX3_numberOf cX3_numberOf 3 (some .int) 1 := ⟨co_X3_numberOf, ini_X3, by decide, by decide +kernel⟩
set_option maxRecDepth 100000 in
set_option maxHeartbeats 4000000 in
theorem k_X3_numberOf {lo : Nat} {h : Hp} {x0 : Nat} {x1 : Int32} {r : Int32} {h' : Hp} (e : f_X3_numberOf h x0 x1 = some (r, h')) : ∀ l d, AC l d lo yX3_numberOf cX3_numberOf 3 (some .int) ({ frames := 2, cells := 0, slots := 0, locals := 42 } : Room) [.ref (lo + x0), .int x1] h (some (.int r)) h' := by
  intro l d
  refine AC_of (by decide) (Nat.le_of_ble_eq_true rfl) ?_
  intro G C _ _ q
  unfold f_X3_numberOf at e
  show AW G lo 0 0 0 [(0, .ref (lo + x0)), (1, .int x1)] [] h
  refine a_aload_n C dX3_numberOf_0 rfl 0 rfl ?_
  refine a_iload_n C dX3_numberOf_1 rfl 1 rfl ?_
  obtain ⟨u7, ec6, e⟩ := bA_some e
  obtain ⟨fs5, eo4⟩ := isC_some ec6
  obtain ⟨r3, h1, e2, e⟩ := b2_some e
  refine a_callV (as := [.int x1]) (rest := []) C m_X3_doorAt im_X3_doorAt cb2 se_X3_X3_doorAt_X3_doorAt ml_X3_57 rfl (Nat.le_of_ble_eq_true rfl) (Nat.le_of_ble_eq_true rfl) (Nat.le_of_ble_eq_true rfl) (Nat.le_of_ble_eq_true rfl) (Nat.le_of_ble_eq_true rfl) dX3_numberOf_2 eo4 (k_X3_doorAt e2) rfl ?_
  show AW G lo 0 0 5 [(0, .ref (lo + x0)), (1, .int x1)] [va_rf (rl lo r3)] h1
  obtain ⟨j11, eb13, e⟩ := bA_some e
  have jj12 : AW G lo 0 0 18 [(0, .ref (lo + x0)), (1, .int x1)] [.int j11] h1 := by
    obtain ⟨rfl, rfl⟩ := sp2 e
    exact a_iret C q (Nat.le_of_ble_eq_true rfl) (Nat.le_of_ble_eq_true rfl) dX3_numberOf_18
  have e := eb13
  rcases r3 with _ | a10
  · show AW G lo 0 0 5 [(0, .ref (lo + x0)), (1, .int x1)] [.null] h1
    refine a_astore_nN (lv2 := [(2, .null), (0, .ref (lo + x0)), (1, .int x1)]) C dX3_numberOf_5 rfl (by decide) rfl ?_
    refine a_aload_nN C dX3_numberOf_6 rfl 0 rfl ?_
    refine a_ifnonnullN C dX3_numberOf_7 ?_
    refine a_iconst (v := (0 : Int32)) C dX3_numberOf_10 (by decide) ?_
    refine a_goto (tgt := 18) C dX3_numberOf_11 (by decide) ?_
    obtain rfl := sp1 e
    exact a_widen (Nat.le_of_ble_eq_true rfl) (Nat.le_of_ble_eq_true rfl) (a_sub [1, 2] rfl jj12)
  · show AW G lo 0 0 5 [(0, .ref (lo + x0)), (1, .int x1)] [.ref (lo + a10)] h1
    refine a_astore_n (lv2 := [(2, .ref (lo + a10)), (0, .ref (lo + x0)), (1, .int x1)]) C dX3_numberOf_5 rfl (by decide) rfl ?_
    refine a_aload_n C dX3_numberOf_6 rfl 0 rfl ?_
    refine a_ifnonnull (tgt := 14) C dX3_numberOf_7 (by decide) ?_
    refine a_aload_n C dX3_numberOf_14 rfl 0 rfl ?_
    obtain ⟨g15, e14, e⟩ := bA_some e
    refine a_getD C 3 (by decide) fl_X3_65 (Or.inl rfl) dX3_numberOf_15 e14 ?_
    obtain rfl := sp1 e
    exact a_widen (Nat.le_of_ble_eq_true rfl) (Nat.le_of_ble_eq_true rfl) (a_sub [1, 2] rfl jj12)

set_option maxRecDepth 100000 in
def f_X3_changeDoor (h : Hp) (x0 : Nat) (x1 : Int32) (x2 : Int32) (x3 : Int32) : Option (Hp) := bA (isC h x0 2) fun u7 => b2 (f_X3_doorAt h x0 x1) fun r3 h1 => bA (match r3 with | none => some h1 | some a10 => bA (gN h1 x0 2 2) fun a15 => bA (gD h1 a10 0) fun g17 => bA (gD h1 a10 1) fun g19 => bA (gD h1 a10 2) fun g21 => b2 (f_X2_of h1 x2 g17 g19 g21 x3) fun r24 h22 => bA (astq h22 a15 4 x1 r24) fun h30 => some h30) fun h11 => some h11

theorem m_X3_changeDoor : MI yX3_changeDoor cX3_changeDoor 5 none 3 := ⟨co_X3_changeDoor, ini_X3, by decide, by decide +kernel⟩
set_option maxRecDepth 100000 in
set_option maxHeartbeats 4000000 in
theorem k_X3_changeDoor {lo : Nat} {h : Hp} {x0 : Nat} {x1 : Int32} {x2 : Int32} {x3 : Int32} {h' : Hp} (e : f_X3_changeDoor h x0 x1 x2 x3 = some h') : ∀ l d, AC l d lo yX3_changeDoor cX3_changeDoor 5 none ({ frames := 5, cells := 1, slots := 4, locals := 116 } : Room) [.ref (lo + x0), .int x1, .int x2, .int x3] h none h' := by
  intro l d
  refine AC_of (by decide) (Nat.le_of_ble_eq_true rfl) ?_
  intro G C _ _ q
  unfold f_X3_changeDoor at e
  show AW G lo 0 0 0 [(0, .ref (lo + x0)), (1, .int x1), (2, .int x2), (3, .int x3)] [] h
  refine a_aload_n C dX3_changeDoor_0 rfl 0 rfl ?_
  refine a_iload_n C dX3_changeDoor_1 rfl 1 rfl ?_
  obtain ⟨u7, ec6, e⟩ := bA_some e
  obtain ⟨fs5, eo4⟩ := isC_some ec6
  obtain ⟨r3, h1, e2, e⟩ := b2_some e
  refine a_callV (as := [.int x1]) (rest := []) C m_X3_doorAt im_X3_doorAt cb2 se_X3_X3_doorAt_X3_doorAt ml_X3_57 rfl (Nat.le_of_ble_eq_true rfl) (Nat.le_of_ble_eq_true rfl) (Nat.le_of_ble_eq_true rfl) (Nat.le_of_ble_eq_true rfl) (Nat.le_of_ble_eq_true rfl) dX3_changeDoor_2 eo4 (k_X3_doorAt e2) rfl ?_
  show AW G lo 0 0 5 [(0, .ref (lo + x0)), (1, .int x1), (2, .int x2), (3, .int x3)] [va_rf (rl lo r3)] h1
  obtain ⟨h11, eb13, e⟩ := bA_some e
  have jj12 : AW G lo 1 4 38 [(0, .ref (lo + x0)), (1, .int x1), (2, .int x2), (3, .int x3)] [] h11 := by
    obtain rfl := sp1 e
    exact a_vret C q (Nat.le_of_ble_eq_true rfl) (Nat.le_of_ble_eq_true rfl) dX3_changeDoor_38
  have e := eb13
  rcases r3 with _ | a10
  · show AW G lo 0 0 5 [(0, .ref (lo + x0)), (1, .int x1), (2, .int x2), (3, .int x3)] [.null] h1
    refine a_astoreN (lv2 := [(4, .null), (0, .ref (lo + x0)), (1, .int x1), (2, .int x2), (3, .int x3)]) C dX3_changeDoor_5 (by decide) rfl ?_
    refine a_aloadN C dX3_changeDoor_7 0 rfl ?_
    refine a_ifnullN (tgt := 38) C dX3_changeDoor_9 (by decide) ?_
    obtain rfl := sp1 e
    exact a_widen (Nat.le_of_ble_eq_true rfl) (Nat.le_of_ble_eq_true rfl) (a_sub [1, 2, 3, 4] rfl jj12)
  · show AW G lo 0 0 5 [(0, .ref (lo + x0)), (1, .int x1), (2, .int x2), (3, .int x3)] [.ref (lo + a10)] h1
    refine a_astore (lv2 := [(4, .ref (lo + a10)), (0, .ref (lo + x0)), (1, .int x1), (2, .int x2), (3, .int x3)]) C dX3_changeDoor_5 (by decide) rfl ?_
    refine a_aload C dX3_changeDoor_7 0 rfl ?_
    refine a_ifnull C dX3_changeDoor_9 ?_
    refine a_aload_n C dX3_changeDoor_12 rfl 1 rfl ?_
    obtain ⟨a15, e14, e⟩ := bA_some e
    refine a_getN C cb2 2 (by decide) fl_X3_20 rfl dX3_changeDoor_13 e14 ?_
    refine a_iload_n C dX3_changeDoor_16 rfl 2 rfl ?_
    refine a_iload_n C dX3_changeDoor_17 rfl 3 rfl ?_
    refine a_aload C dX3_changeDoor_18 0 rfl ?_
    obtain ⟨g17, e16, e⟩ := bA_some e
    refine a_getD C 0 (by decide) fl_X3_68 (Or.inl rfl) dX3_changeDoor_20 e16 ?_
    refine a_aload C dX3_changeDoor_23 0 rfl ?_
    obtain ⟨g19, e18, e⟩ := bA_some e
    refine a_getD C 1 (by decide) fl_X3_71 (Or.inl rfl) dX3_changeDoor_25 e18 ?_
    refine a_aload C dX3_changeDoor_28 0 rfl ?_
    obtain ⟨g21, e20, e⟩ := bA_some e
    refine a_getD C 2 (by decide) fl_X3_74 (Or.inl rfl) dX3_changeDoor_30 e20 ?_
    refine a_iload_n C dX3_changeDoor_33 rfl 4 rfl ?_
    obtain ⟨r24, h22, e23, e⟩ := b2_some e
    refine a_callS (as := [.int x2, .int g17, .int g19, .int g21, .int x3]) (rest := [.int x1, .ref (lo + a15)]) C m_X2_of sm_X2_of ml_X3_53 rfl (Nat.le_of_ble_eq_true rfl) (Nat.le_of_ble_eq_true rfl) (Nat.le_of_ble_eq_true rfl) (Nat.le_of_ble_eq_true rfl) (Nat.le_of_ble_eq_true rfl) dX3_changeDoor_34 (k_X2_of e23) rfl ?_
    show AW G lo 1 4 37 [(4, .ref (lo + a10)), (0, .ref (lo + x0)), (1, .int x1), (2, .int x2), (3, .int x3)] [va_rf (rl lo r24), .int x1, .ref (lo + a15)] h22
    obtain ⟨h30, e31, e⟩ := bA_some e
    refine a_astq (r := r24) C dX3_changeDoor_37 e31 ?_
    obtain rfl := sp1 e
    exact a_widen (Nat.le_of_ble_eq_true rfl) (Nat.le_of_ble_eq_true rfl) (a_sub [1, 2, 3, 4] rfl jj12)

set_option maxRecDepth 100000 in
def f_X3_doorsOf_L4 {β : Type} (k : Int32 → Int32 → Hp → Option (β)) (x0 : Nat) (x1 : Int32) : Nat → Hp → Int32 → Int32 → Option (β)
  | 0, _, _, _ => none
  | fuel + 1, h, x2, x3 => bA (gI h x0 2 4) fun g2 => (if g2 ≤ x3 then k x2 x3 h else bA (isC h x0 2) fun u10 => b2 (f_X3_doorAt h x0 x3) fun r6 h4 => b2 (match r6 with | none => some (x2, h4) | some a13 => bA (gC h4 a13) fun c24 => b2 (v_X2_leadsFrom c24 h4 a13 x1) fun r20 h18 => (if r20 = 0 then some (x2, h18) else some ((x2 ||| ((1 : Int32) <<< (x3 &&& 31))), h18))) fun j14 h15 => f_X3_doorsOf_L4 k x0 x1 fuel h15 j14 (x3 + (1 : Int32)))

set_option maxRecDepth 100000 in
def f_X3_doorsOf (h : Hp) (x0 : Nat) (x1 : Int32) : Option (Int32 × Hp) := f_X3_doorsOf_L4 (fun y28 y29 h27 => some (y28, h27)) x0 x1 2000 h (0 : Int32) (0 : Int32)

theorem m_X3_doorsOf : MI yX3_doorsOf cX3_doorsOf 5 (some .int) 1 := ⟨co_X3_doorsOf, ini_X3, by decide, by decide +kernel⟩
set_option maxRecDepth 100000 in
set_option maxHeartbeats 4000000 in
theorem w_X3_doorsOf_L4 {G : Gm} {lo : Nat} {ce sl : Nat} (C : CX G lo cX3_doorsOf RX3 (some .int) ({ frames := 2, cells := 0, slots := 0, locals := 42 } : Room) 5) {β : Type} {res : β} {k : Int32 → Int32 → Hp → Option (β)} {x0 : Nat} {x1 : Int32} (hk : ∀ (h : Hp) (x2 : Int32) (x3 : Int32), k x2 x3 h = some res → AW G lo ce sl 45 [(0, .ref (lo + x0)), (1, .int x1), (2, .int x2), (3, .int x3)] [] h) (hce : ce ≤ 0) (hsl : sl ≤ 0) : ∀ (fuel : Nat) (h : Hp) (x2 : Int32) (x3 : Int32), f_X3_doorsOf_L4 k x0 x1 fuel h x2 x3 = some res → AW G lo ce sl 4 [(0, .ref (lo + x0)), (1, .int x1), (2, .int x2), (3, .int x3)] [] h := by
  intro fuel
  induction fuel with
  | zero =>
    intro h x2 x3 e
    cases (show (none : Option (β)) = some res from e)
  | succ fuel ih =>
    intro h x2 x3 e
    rw [f_X3_doorsOf_L4] at e
    refine a_iload_n C dX3_doorsOf_4 rfl 3 rfl ?_
    refine a_aload_n C dX3_doorsOf_5 rfl 0 rfl ?_
    obtain ⟨g2, e1, e⟩ := bA_some e
    refine a_getI C cb2 4 (by decide) fl_X3_28 rfl dX3_doorsOf_6 e1 ?_
    refine a_icmp_ge (tgt := 45) C dX3_doorsOf_9 (by decide) (fun c3 => ?_) (fun c3 => ?_)
    · have e := ip c3 e
      exact a_sub [0, 1, 2, 3] rfl (hk _ _ _ e)
    · have e := iN c3 e
      refine a_aload_n C dX3_doorsOf_12 rfl 0 rfl ?_
      refine a_iload_n C dX3_doorsOf_13 rfl 3 rfl ?_
      obtain ⟨u10, ec9, e⟩ := bA_some e
      obtain ⟨fs8, eo7⟩ := isC_some ec9
      obtain ⟨r6, h4, e5, e⟩ := b2_some e
      refine a_callV (as := [.int x3]) (rest := []) C m_X3_doorAt im_X3_doorAt cb2 se_X3_X3_doorAt_X3_doorAt ml_X3_57 rfl (Nat.le_of_ble_eq_true rfl) (Nat.le_of_ble_eq_true rfl) (by exact hce) (by exact hsl) (Nat.le_of_ble_eq_true rfl) dX3_doorsOf_14 eo7 (k_X3_doorAt e5) rfl ?_
      show AW G lo ce sl 17 [(0, .ref (lo + x0)), (1, .int x1), (2, .int x2), (3, .int x3)] [va_rf (rl lo r6)] h4
      obtain ⟨j14, h15, eb17, e⟩ := b2_some e
      have jj16 : AW G lo ce sl 39 [(0, .ref (lo + x0)), (1, .int x1), (2, .int j14), (3, .int x3)] [] h15 := by
        refine a_iinc (v := x3 + (1 : Int32)) (lv2 := [(3, .int (x3 + (1 : Int32))), (0, .ref (lo + x0)), (1, .int x1), (2, .int j14)]) C dX3_doorsOf_39 3 rfl rfl (by decide) rfl ?_
        refine a_goto (tgt := 4) C dX3_doorsOf_42 (by decide) ?_
        exact a_sub [1, 2, 3, 0] rfl (ih _ _ _ e)
      have e := eb17
      rcases r6 with _ | a13
      · show AW G lo ce sl 17 [(0, .ref (lo + x0)), (1, .int x1), (2, .int x2), (3, .int x3)] [.null] h4
        refine a_astoreN (lv2 := [(4, .null), (0, .ref (lo + x0)), (1, .int x1), (2, .int x2), (3, .int x3)]) C dX3_doorsOf_17 (by decide) rfl ?_
        refine a_aloadN C dX3_doorsOf_19 0 rfl ?_
        refine a_ifnullN (tgt := 39) C dX3_doorsOf_21 (by decide) ?_
        obtain ⟨rfl, rfl⟩ := sp2 e
        exact a_widen (Nat.le_refl _) (Nat.le_refl _) (a_sub [1, 2, 3, 4] rfl jj16)
      · show AW G lo ce sl 17 [(0, .ref (lo + x0)), (1, .int x1), (2, .int x2), (3, .int x3)] [.ref (lo + a13)] h4
        refine a_astore (lv2 := [(4, .ref (lo + a13)), (0, .ref (lo + x0)), (1, .int x1), (2, .int x2), (3, .int x3)]) C dX3_doorsOf_17 (by decide) rfl ?_
        refine a_aload C dX3_doorsOf_19 0 rfl ?_
        refine a_ifnull C dX3_doorsOf_21 ?_
        refine a_aload C dX3_doorsOf_24 0 rfl ?_
        refine a_iload_n C dX3_doorsOf_26 rfl 2 rfl ?_
        obtain ⟨c24, ec23, e⟩ := bA_some e
        obtain ⟨fs22, eo21, ed25⟩ := gC_some ec23
        obtain ⟨r20, h18, e19, e⟩ := b2_some e
        refine a_callD (as := [.int x1]) (rest := []) C (vd_X2_leadsFrom e19) sam_X2_X2_leadsFrom du_X2_leadsFrom (by decide) ml_X3_77 (Nat.le_of_ble_eq_true rfl) (Nat.le_of_ble_eq_true rfl) (by exact hce) (by exact hsl) (Nat.le_of_ble_eq_true rfl) dX3_doorsOf_27 eo21 rfl ?_
        show AW G lo ce sl 30 [(4, .ref (lo + a13)), (0, .ref (lo + x0)), (1, .int x1), (2, .int x2), (3, .int x3)] [.int r20] h18
        refine a_if_eq (tgt := 39) C dX3_doorsOf_30 (by decide) (fun c26 => ?_) (fun c26 => ?_)
        · have e := ip c26 e
          obtain ⟨rfl, rfl⟩ := sp2 e
          exact a_widen (Nat.le_refl _) (Nat.le_refl _) (a_sub [1, 2, 3, 4] rfl jj16)
        · have e := iN c26 e
          refine a_iload_n C dX3_doorsOf_33 rfl 3 rfl ?_
          refine a_iconst (v := (1 : Int32)) C dX3_doorsOf_34 (by decide) ?_
          refine a_iload_n C dX3_doorsOf_35 rfl 4 rfl ?_
          refine a_ishl C dX3_doorsOf_36 ?_
          refine a_ior C dX3_doorsOf_37 ?_
          refine a_istore_n (lv2 := [(2, .int (x2 ||| ((1 : Int32) <<< (x3 &&& 31)))), (4, .ref (lo + a13)), (0, .ref (lo + x0)), (1, .int x1), (3, .int x3)]) C dX3_doorsOf_38 rfl (by decide) rfl ?_
          obtain ⟨rfl, rfl⟩ := sp2 e
          exact a_widen (Nat.le_refl _) (Nat.le_refl _) (a_sub [2, 3, 0, 4] rfl jj16)
set_option maxRecDepth 100000 in
set_option maxHeartbeats 4000000 in
theorem k_X3_doorsOf {lo : Nat} {h : Hp} {x0 : Nat} {x1 : Int32} {r : Int32} {h' : Hp} (e : f_X3_doorsOf h x0 x1 = some (r, h')) : ∀ l d, AC l d lo yX3_doorsOf cX3_doorsOf 5 (some .int) ({ frames := 2, cells := 0, slots := 0, locals := 42 } : Room) [.ref (lo + x0), .int x1] h (some (.int r)) h' := by
  intro l d
  refine AC_of (by decide) (Nat.le_of_ble_eq_true rfl) ?_
  intro G C _ _ q
  unfold f_X3_doorsOf at e
  show AW G lo 0 0 0 [(0, .ref (lo + x0)), (1, .int x1)] [] h
  refine a_iconst (v := (0 : Int32)) C dX3_doorsOf_0 (by decide) ?_
  refine a_istore_n (lv2 := [(2, .int (0 : Int32)), (0, .ref (lo + x0)), (1, .int x1)]) C dX3_doorsOf_1 rfl (by decide) rfl ?_
  refine a_iconst (v := (0 : Int32)) C dX3_doorsOf_2 (by decide) ?_
  refine a_istore_n (lv2 := [(3, .int (0 : Int32)), (2, .int (0 : Int32)), (0, .ref (lo + x0)), (1, .int x1)]) C dX3_doorsOf_3 rfl (by decide) rfl ?_
  refine a_sub [2, 3, 1, 0] rfl (w_X3_doorsOf_L4 C ?_ (Nat.le_of_ble_eq_true rfl) (Nat.le_of_ble_eq_true rfl) 2000 _ _ _ e)
  intro h27 y28 y29 e
  show AW G lo 0 0 45 [(0, .ref (lo + x0)), (1, .int x1), (2, .int y28), (3, .int y29)] [] h27
  refine a_iload_n C dX3_doorsOf_45 rfl 2 rfl ?_
  obtain ⟨rfl, rfl⟩ := sp2 e
  exact a_iret C q (Nat.le_of_ble_eq_true rfl) (Nat.le_of_ble_eq_true rfl) dX3_doorsOf_46

set_option maxRecDepth 100000 in
def f_X3_filledRooms_L4 {β : Type} (k : Int32 → Int32 → Hp → Option (β)) (x0 : Nat) : Nat → Hp → Int32 → Int32 → Option (β)
  | 0, _, _, _ => none
  | fuel + 1, h, x1, x2 => bA (gI h x0 2 3) fun g2 => (if g2 ≤ x2 then k x1 x2 h else bA (gN h x0 2 0) fun a5 => bA (ald h a5 0 x2) fun v6 => bA (if v6 = 0 then some x1 else some (x1 ||| ((1 : Int32) <<< (x2 &&& 31)))) fun j9 => f_X3_filledRooms_L4 k x0 fuel h j9 (x2 + (1 : Int32)))

set_option maxRecDepth 100000 in
def f_X3_filledRooms (h : Hp) (x0 : Nat) : Option (Int32 × Hp) := f_X3_filledRooms_L4 (fun y13 y14 h12 => some (y13, h12)) x0 2000 h (0 : Int32) (0 : Int32)

theorem m_X3_filledRooms : MI yX3_filledRooms cX3_filledRooms 3 (some .int) 0 := ⟨co_X3_filledRooms, ini_X3, by decide, by decide +kernel⟩
set_option maxRecDepth 100000 in
set_option maxHeartbeats 4000000 in
theorem w_X3_filledRooms_L4 {G : Gm} {lo : Nat} {ce sl : Nat} (C : CX G lo cX3_filledRooms RX3 (some .int) ({ frames := 0, cells := 0, slots := 0, locals := 0 } : Room) 3) {β : Type} {res : β} {k : Int32 → Int32 → Hp → Option (β)} {x0 : Nat} (hk : ∀ (h : Hp) (x1 : Int32) (x2 : Int32), k x1 x2 h = some res → AW G lo ce sl 33 [(0, .ref (lo + x0)), (1, .int x1), (2, .int x2)] [] h) (hce : ce ≤ 0) (hsl : sl ≤ 0) : ∀ (fuel : Nat) (h : Hp) (x1 : Int32) (x2 : Int32), f_X3_filledRooms_L4 k x0 fuel h x1 x2 = some res → AW G lo ce sl 4 [(0, .ref (lo + x0)), (1, .int x1), (2, .int x2)] [] h := by
  intro fuel
  induction fuel with
  | zero =>
    intro h x1 x2 e
    cases (show (none : Option (β)) = some res from e)
  | succ fuel ih =>
    intro h x1 x2 e
    rw [f_X3_filledRooms_L4] at e
    refine a_iload_n C dX3_filledRooms_4 rfl 2 rfl ?_
    refine a_aload_n C dX3_filledRooms_5 rfl 0 rfl ?_
    obtain ⟨g2, e1, e⟩ := bA_some e
    refine a_getI C cb2 3 (by decide) fl_X3_24 rfl dX3_filledRooms_6 e1 ?_
    refine a_icmp_ge (tgt := 33) C dX3_filledRooms_9 (by decide) (fun c3 => ?_) (fun c3 => ?_)
    · have e := ip c3 e
      exact a_sub [0, 1, 2] rfl (hk _ _ _ e)
    · have e := iN c3 e
      refine a_aload_n C dX3_filledRooms_12 rfl 0 rfl ?_
      obtain ⟨a5, e4, e⟩ := bA_some e
      refine a_getN C cb2 0 (by decide) fl_X3_9 rfl dX3_filledRooms_13 e4 ?_
      refine a_iload_n C dX3_filledRooms_16 rfl 2 rfl ?_
      obtain ⟨v6, e7, e⟩ := bA_some e
      refine a_iald C dX3_filledRooms_17 e7 ?_
      obtain ⟨j9, eb11, e⟩ := bA_some e
      have jj10 : AW G lo ce sl 27 [(0, .ref (lo + x0)), (1, .int j9), (2, .int x2)] [] h := by
        refine a_iinc (v := x2 + (1 : Int32)) (lv2 := [(2, .int (x2 + (1 : Int32))), (0, .ref (lo + x0)), (1, .int j9)]) C dX3_filledRooms_27 2 rfl rfl (by decide) rfl ?_
        refine a_goto (tgt := 4) C dX3_filledRooms_30 (by decide) ?_
        exact a_sub [1, 2, 0] rfl (ih _ _ _ e)
      have e := eb11
      refine a_if_eq (tgt := 27) C dX3_filledRooms_18 (by decide) (fun c8 => ?_) (fun c8 => ?_)
      · have e := ip c8 e
        obtain rfl := sp1 e
        exact a_widen (Nat.le_refl _) (Nat.le_refl _) (a_sub [0, 1, 2] rfl jj10)
      · have e := iN c8 e
        refine a_iload_n C dX3_filledRooms_21 rfl 1 rfl ?_
        refine a_iconst (v := (1 : Int32)) C dX3_filledRooms_22 (by decide) ?_
        refine a_iload_n C dX3_filledRooms_23 rfl 2 rfl ?_
        refine a_ishl C dX3_filledRooms_24 ?_
        refine a_ior C dX3_filledRooms_25 ?_
        refine a_istore_n (lv2 := [(1, .int (x1 ||| ((1 : Int32) <<< (x2 &&& 31)))), (0, .ref (lo + x0)), (2, .int x2)]) C dX3_filledRooms_26 rfl (by decide) rfl ?_
        obtain rfl := sp1 e
        exact a_widen (Nat.le_refl _) (Nat.le_refl _) (a_sub [1, 0, 2] rfl jj10)
set_option maxRecDepth 100000 in
set_option maxHeartbeats 4000000 in
theorem k_X3_filledRooms {lo : Nat} {h : Hp} {x0 : Nat} {r : Int32} {h' : Hp} (e : f_X3_filledRooms h x0 = some (r, h')) : ∀ l d, AC l d lo yX3_filledRooms cX3_filledRooms 3 (some .int) ({ frames := 0, cells := 0, slots := 0, locals := 0 } : Room) [.ref (lo + x0)] h (some (.int r)) h' := by
  intro l d
  refine AC_of (by decide) (Nat.le_of_ble_eq_true rfl) ?_
  intro G C _ _ q
  unfold f_X3_filledRooms at e
  show AW G lo 0 0 0 [(0, .ref (lo + x0))] [] h
  refine a_iconst (v := (0 : Int32)) C dX3_filledRooms_0 (by decide) ?_
  refine a_istore_n (lv2 := [(1, .int (0 : Int32)), (0, .ref (lo + x0))]) C dX3_filledRooms_1 rfl (by decide) rfl ?_
  refine a_iconst (v := (0 : Int32)) C dX3_filledRooms_2 (by decide) ?_
  refine a_istore_n (lv2 := [(2, .int (0 : Int32)), (1, .int (0 : Int32)), (0, .ref (lo + x0))]) C dX3_filledRooms_3 rfl (by decide) rfl ?_
  refine a_sub [2, 1, 0] rfl (w_X3_filledRooms_L4 C ?_ (Nat.le_of_ble_eq_true rfl) (Nat.le_of_ble_eq_true rfl) 2000 _ _ _ e)
  intro h12 y13 y14 e
  show AW G lo 0 0 33 [(0, .ref (lo + x0)), (1, .int y13), (2, .int y14)] [] h12
  refine a_iload_n C dX3_filledRooms_33 rfl 1 rfl ?_
  obtain ⟨rfl, rfl⟩ := sp2 e
  exact a_iret C q (Nat.le_of_ble_eq_true rfl) (Nat.le_of_ble_eq_true rfl) dX3_filledRooms_34

set_option maxRecDepth 100000 in
def f_X3_weightOf_L4 {β : Type} (k : Int32 → Int32 → Hp → Option (β)) (x0 : Nat) (x1 : Int32) : Nat → Hp → Int32 → Int32 → Option (β)
  | 0, _, _, _ => none
  | fuel + 1, h, x2, x3 => bA (gI h x0 2 3) fun g2 => (if g2 ≤ x3 then k x2 x3 h else bA (if ((x1 >>> (x3 &&& 31)) &&& (1 : Int32)) = 0 then some x2 else bA (gN h x0 2 0) fun a9 => bA (ald h a9 0 x3) fun v10 => some (x2 + v10)) fun j5 => f_X3_weightOf_L4 k x0 x1 fuel h j5 (x3 + (1 : Int32)))

set_option maxRecDepth 100000 in
def f_X3_weightOf (h : Hp) (x0 : Nat) (x1 : Int32) : Option (Int32 × Hp) := f_X3_weightOf_L4 (fun y13 y14 h12 => some (y13, h12)) x0 x1 2000 h (0 : Int32) (0 : Int32)

theorem m_X3_weightOf : MI yX3_weightOf cX3_weightOf 4 (some .int) 1 := ⟨co_X3_weightOf, ini_X3, by decide, by decide +kernel⟩
set_option maxRecDepth 100000 in
set_option maxHeartbeats 4000000 in
theorem w_X3_weightOf_L4 {G : Gm} {lo : Nat} {ce sl : Nat} (C : CX G lo cX3_weightOf RX3 (some .int) ({ frames := 0, cells := 0, slots := 0, locals := 0 } : Room) 4) {β : Type} {res : β} {k : Int32 → Int32 → Hp → Option (β)} {x0 : Nat} {x1 : Int32} (hk : ∀ (h : Hp) (x2 : Int32) (x3 : Int32), k x2 x3 h = some res → AW G lo ce sl 35 [(0, .ref (lo + x0)), (1, .int x1), (2, .int x2), (3, .int x3)] [] h) (hce : ce ≤ 0) (hsl : sl ≤ 0) : ∀ (fuel : Nat) (h : Hp) (x2 : Int32) (x3 : Int32), f_X3_weightOf_L4 k x0 x1 fuel h x2 x3 = some res → AW G lo ce sl 4 [(0, .ref (lo + x0)), (1, .int x1), (2, .int x2), (3, .int x3)] [] h := by
  intro fuel
  induction fuel with
  | zero =>
    intro h x2 x3 e
    cases (show (none : Option (β)) = some res from e)
  | succ fuel ih =>
    intro h x2 x3 e
    rw [f_X3_weightOf_L4] at e
    refine a_iload_n C dX3_weightOf_4 rfl 3 rfl ?_
    refine a_aload_n C dX3_weightOf_5 rfl 0 rfl ?_
    obtain ⟨g2, e1, e⟩ := bA_some e
    refine a_getI C cb2 3 (by decide) fl_X3_24 rfl dX3_weightOf_6 e1 ?_
    refine a_icmp_ge (tgt := 35) C dX3_weightOf_9 (by decide) (fun c3 => ?_) (fun c3 => ?_)
    · have e := ip c3 e
      exact a_sub [0, 1, 2, 3] rfl (hk _ _ _ e)
    · have e := iN c3 e
      refine a_iload_n C dX3_weightOf_12 rfl 1 rfl ?_
      refine a_iload_n C dX3_weightOf_13 rfl 3 rfl ?_
      refine a_ishr C dX3_weightOf_14 ?_
      refine a_iconst (v := (1 : Int32)) C dX3_weightOf_15 (by decide) ?_
      refine a_iand C dX3_weightOf_16 ?_
      obtain ⟨j5, eb7, e⟩ := bA_some e
      have jj6 : AW G lo ce sl 29 [(0, .ref (lo + x0)), (1, .int x1), (2, .int j5), (3, .int x3)] [] h := by
        refine a_iinc (v := x3 + (1 : Int32)) (lv2 := [(3, .int (x3 + (1 : Int32))), (0, .ref (lo + x0)), (1, .int x1), (2, .int j5)]) C dX3_weightOf_29 3 rfl rfl (by decide) rfl ?_
        refine a_goto (tgt := 4) C dX3_weightOf_32 (by decide) ?_
        exact a_sub [1, 2, 3, 0] rfl (ih _ _ _ e)
      have e := eb7
      refine a_if_eq (tgt := 29) C dX3_weightOf_17 (by decide) (fun c4 => ?_) (fun c4 => ?_)
      · have e := ip c4 e
        obtain rfl := sp1 e
        exact a_widen (Nat.le_refl _) (Nat.le_refl _) (a_sub [0, 1, 2, 3] rfl jj6)
      · have e := iN c4 e
        refine a_iload_n C dX3_weightOf_20 rfl 2 rfl ?_
        refine a_aload_n C dX3_weightOf_21 rfl 0 rfl ?_
        obtain ⟨a9, e8, e⟩ := bA_some e
        refine a_getN C cb2 0 (by decide) fl_X3_9 rfl dX3_weightOf_22 e8 ?_
        refine a_iload_n C dX3_weightOf_25 rfl 3 rfl ?_
        obtain ⟨v10, e11, e⟩ := bA_some e
        refine a_iald C dX3_weightOf_26 e11 ?_
        refine a_iadd C dX3_weightOf_27 ?_
        refine a_istore_n (lv2 := [(2, .int (x2 + v10)), (0, .ref (lo + x0)), (1, .int x1), (3, .int x3)]) C dX3_weightOf_28 rfl (by decide) rfl ?_
        obtain rfl := sp1 e
        exact a_widen (Nat.le_refl _) (Nat.le_refl _) (a_sub [1, 2, 0, 3] rfl jj6)
set_option maxRecDepth 100000 in
set_option maxHeartbeats 4000000 in
theorem k_X3_weightOf {lo : Nat} {h : Hp} {x0 : Nat} {x1 : Int32} {r : Int32} {h' : Hp} (e : f_X3_weightOf h x0 x1 = some (r, h')) : ∀ l d, AC l d lo yX3_weightOf cX3_weightOf 4 (some .int) ({ frames := 0, cells := 0, slots := 0, locals := 0 } : Room) [.ref (lo + x0), .int x1] h (some (.int r)) h' := by
  intro l d
  refine AC_of (by decide) (Nat.le_of_ble_eq_true rfl) ?_
  intro G C _ _ q
  unfold f_X3_weightOf at e
  show AW G lo 0 0 0 [(0, .ref (lo + x0)), (1, .int x1)] [] h
  refine a_iconst (v := (0 : Int32)) C dX3_weightOf_0 (by decide) ?_
  refine a_istore_n (lv2 := [(2, .int (0 : Int32)), (0, .ref (lo + x0)), (1, .int x1)]) C dX3_weightOf_1 rfl (by decide) rfl ?_
  refine a_iconst (v := (0 : Int32)) C dX3_weightOf_2 (by decide) ?_
  refine a_istore_n (lv2 := [(3, .int (0 : Int32)), (2, .int (0 : Int32)), (0, .ref (lo + x0)), (1, .int x1)]) C dX3_weightOf_3 rfl (by decide) rfl ?_
  refine a_sub [2, 3, 1, 0] rfl (w_X3_weightOf_L4 C ?_ (Nat.le_of_ble_eq_true rfl) (Nat.le_of_ble_eq_true rfl) 2000 _ _ _ e)
  intro h12 y13 y14 e
  show AW G lo 0 0 35 [(0, .ref (lo + x0)), (1, .int x1), (2, .int y13), (3, .int y14)] [] h12
  refine a_iload_n C dX3_weightOf_35 rfl 2 rfl ?_
  obtain ⟨rfl, rfl⟩ := sp2 e
  exact a_iret C q (Nat.le_of_ble_eq_true rfl) (Nat.le_of_ble_eq_true rfl) dX3_weightOf_36

set_option maxRecDepth 100000 in
def f_X3_weightOfAll (h : Hp) (x0 : Nat) : Option (Int32 × Hp) := bA (isC h x0 2) fun u7 => b2 (f_X3_weightOf h x0 (255 : Int32)) fun r3 h1 => some (r3, h1)

theorem m_X3_weightOfAll : MI yX3_weightOfAll cX3_weightOfAll 1 (some .int) 0 := ⟨co_X3_weightOfAll, ini_X3, by decide, by decide +kernel⟩
set_option maxRecDepth 100000 in
set_option maxHeartbeats 4000000 in
theorem k_X3_weightOfAll {lo : Nat} {h : Hp} {x0 : Nat} {r : Int32} {h' : Hp} (e : f_X3_weightOfAll h x0 = some (r, h')) : ∀ l d, AC l d lo yX3_weightOfAll cX3_weightOfAll 1 (some .int) ({ frames := 1, cells := 0, slots := 0, locals := 23 } : Room) [.ref (lo + x0)] h (some (.int r)) h' := by
  intro l d
  refine AC_of (by decide) (Nat.le_of_ble_eq_true rfl) ?_
  intro G C _ _ q
  unfold f_X3_weightOfAll at e
  show AW G lo 0 0 0 [(0, .ref (lo + x0))] [] h
  refine a_aload_n C dX3_weightOfAll_0 rfl 0 rfl ?_
  refine a_sipush (v := (255 : Int32)) C dX3_weightOfAll_1 (by decide) ?_
  obtain ⟨u7, ec6, e⟩ := bA_some e
  obtain ⟨fs5, eo4⟩ := isC_some ec6
  obtain ⟨r3, h1, e2, e⟩ := b2_some e
  refine a_callV (as := [.int (255 : Int32)]) (rest := []) C m_X3_weightOf im_X3_weightOf cb2 se_X3_X3_weightOf_X3_weightOf ml_X3_80 rfl (Nat.le_of_ble_eq_true rfl) (Nat.le_of_ble_eq_true rfl) (Nat.le_of_ble_eq_true rfl) (Nat.le_of_ble_eq_true rfl) (Nat.le_of_ble_eq_true rfl) dX3_weightOfAll_4 eo4 (k_X3_weightOf e2) rfl ?_
  show AW G lo 0 0 7 [(0, .ref (lo + x0))] [.int r3] h1
  obtain ⟨rfl, rfl⟩ := sp2 e
  exact a_iret C q (Nat.le_of_ble_eq_true rfl) (Nat.le_of_ble_eq_true rfl) dX3_weightOfAll_7

set_option maxRecDepth 100000 in
def f_X3_wearOfAll_L4 {β : Type} (k : Int32 → Int32 → Hp → Option (β)) (x0 : Nat) : Nat → Hp → Int32 → Int32 → Option (β)
  | 0, _, _, _ => none
  | fuel + 1, h, x1, x2 => bA (gI h x0 2 4) fun g2 => (if g2 ≤ x2 then k x1 x2 h else bA (gN h x0 2 1) fun a5 => bA (ald h a5 0 x2) fun v6 => f_X3_wearOfAll_L4 k x0 fuel h (x1 + v6) (x2 + (1 : Int32)))

set_option maxRecDepth 100000 in
def f_X3_wearOfAll (h : Hp) (x0 : Nat) : Option (Int32 × Hp) := f_X3_wearOfAll_L4 (fun y9 y10 h8 => some (y9, h8)) x0 2000 h (0 : Int32) (0 : Int32)

theorem m_X3_wearOfAll : MI yX3_wearOfAll cX3_wearOfAll 3 (some .int) 0 := ⟨co_X3_wearOfAll, ini_X3, by decide, by decide +kernel⟩
set_option maxRecDepth 100000 in
set_option maxHeartbeats 4000000 in
theorem w_X3_wearOfAll_L4 {G : Gm} {lo : Nat} {ce sl : Nat} (C : CX G lo cX3_wearOfAll RX3 (some .int) ({ frames := 0, cells := 0, slots := 0, locals := 0 } : Room) 3) {β : Type} {res : β} {k : Int32 → Int32 → Hp → Option (β)} {x0 : Nat} (hk : ∀ (h : Hp) (x1 : Int32) (x2 : Int32), k x1 x2 h = some res → AW G lo ce sl 27 [(0, .ref (lo + x0)), (1, .int x1), (2, .int x2)] [] h) (hce : ce ≤ 0) (hsl : sl ≤ 0) : ∀ (fuel : Nat) (h : Hp) (x1 : Int32) (x2 : Int32), f_X3_wearOfAll_L4 k x0 fuel h x1 x2 = some res → AW G lo ce sl 4 [(0, .ref (lo + x0)), (1, .int x1), (2, .int x2)] [] h := by
  intro fuel
  induction fuel with
  | zero =>
    intro h x1 x2 e
    cases (show (none : Option (β)) = some res from e)
  | succ fuel ih =>
    intro h x1 x2 e
    rw [f_X3_wearOfAll_L4] at e
    refine a_iload_n C dX3_wearOfAll_4 rfl 2 rfl ?_
    refine a_aload_n C dX3_wearOfAll_5 rfl 0 rfl ?_
    obtain ⟨g2, e1, e⟩ := bA_some e
    refine a_getI C cb2 4 (by decide) fl_X3_28 rfl dX3_wearOfAll_6 e1 ?_
    refine a_icmp_ge (tgt := 27) C dX3_wearOfAll_9 (by decide) (fun c3 => ?_) (fun c3 => ?_)
    · have e := ip c3 e
      exact a_sub [0, 1, 2] rfl (hk _ _ _ e)
    · have e := iN c3 e
      refine a_iload_n C dX3_wearOfAll_12 rfl 1 rfl ?_
      refine a_aload_n C dX3_wearOfAll_13 rfl 0 rfl ?_
      obtain ⟨a5, e4, e⟩ := bA_some e
      refine a_getN C cb2 1 (by decide) fl_X3_15 rfl dX3_wearOfAll_14 e4 ?_
      refine a_iload_n C dX3_wearOfAll_17 rfl 2 rfl ?_
      obtain ⟨v6, e7, e⟩ := bA_some e
      refine a_iald C dX3_wearOfAll_18 e7 ?_
      refine a_iadd C dX3_wearOfAll_19 ?_
      refine a_istore_n (lv2 := [(1, .int (x1 + v6)), (0, .ref (lo + x0)), (2, .int x2)]) C dX3_wearOfAll_20 rfl (by decide) rfl ?_
      refine a_iinc (v := x2 + (1 : Int32)) (lv2 := [(2, .int (x2 + (1 : Int32))), (1, .int (x1 + v6)), (0, .ref (lo + x0))]) C dX3_wearOfAll_21 2 rfl rfl (by decide) rfl ?_
      refine a_goto (tgt := 4) C dX3_wearOfAll_24 (by decide) ?_
      exact a_sub [2, 1, 0] rfl (ih _ _ _ e)
set_option maxRecDepth 100000 in
set_option maxHeartbeats 4000000 in
theorem k_X3_wearOfAll {lo : Nat} {h : Hp} {x0 : Nat} {r : Int32} {h' : Hp} (e : f_X3_wearOfAll h x0 = some (r, h')) : ∀ l d, AC l d lo yX3_wearOfAll cX3_wearOfAll 3 (some .int) ({ frames := 0, cells := 0, slots := 0, locals := 0 } : Room) [.ref (lo + x0)] h (some (.int r)) h' := by
  intro l d
  refine AC_of (by decide) (Nat.le_of_ble_eq_true rfl) ?_
  intro G C _ _ q
  unfold f_X3_wearOfAll at e
  show AW G lo 0 0 0 [(0, .ref (lo + x0))] [] h
  refine a_iconst (v := (0 : Int32)) C dX3_wearOfAll_0 (by decide) ?_
  refine a_istore_n (lv2 := [(1, .int (0 : Int32)), (0, .ref (lo + x0))]) C dX3_wearOfAll_1 rfl (by decide) rfl ?_
  refine a_iconst (v := (0 : Int32)) C dX3_wearOfAll_2 (by decide) ?_
  refine a_istore_n (lv2 := [(2, .int (0 : Int32)), (1, .int (0 : Int32)), (0, .ref (lo + x0))]) C dX3_wearOfAll_3 rfl (by decide) rfl ?_
  refine a_sub [2, 1, 0] rfl (w_X3_wearOfAll_L4 C ?_ (Nat.le_of_ble_eq_true rfl) (Nat.le_of_ble_eq_true rfl) 2000 _ _ _ e)
  intro h8 y9 y10 e
  show AW G lo 0 0 27 [(0, .ref (lo + x0)), (1, .int y9), (2, .int y10)] [] h8
  refine a_iload_n C dX3_wearOfAll_27 rfl 1 rfl ?_
  obtain ⟨rfl, rfl⟩ := sp2 e
  exact a_iret C q (Nat.le_of_ble_eq_true rfl) (Nat.le_of_ble_eq_true rfl) dX3_wearOfAll_28
