set_option maxRecDepth 100000 in
def f_X12_init (h : Hp) (x0 : Nat) : Option (Hp) := nw h (.inl (0, 8, fun _ => 0)) fun q2 h1 => bA (ast h1 q2 0 (0 : Int32) (-1 : Int32)) fun h3 => bA (ast h3 q2 0 (1 : Int32) (-1 : Int32)) fun h5 => bA (ast h5 q2 0 (2 : Int32) (-1 : Int32)) fun h7 => bA (ast h7 q2 0 (3 : Int32) (-1 : Int32)) fun h9 => bA (ast h9 q2 0 (4 : Int32) (-1 : Int32)) fun h11 => bA (ast h11 q2 0 (5 : Int32) (-1 : Int32)) fun h13 => bA (ast h13 q2 0 (6 : Int32) (-1 : Int32)) fun h15 => bA (ast h15 q2 0 (7 : Int32) (-1 : Int32)) fun h17 => bA (pV h17 x0 11 2 (.inr (some q2))) fun h20 => nw h20 (.inl (0, 8, fun _ => 0)) fun q22 h21 => bA (pV h21 x0 11 3 (.inr (some q22))) fun h24 => nw h24 (.inl (0, 320, fun _ => 0)) fun q26 h25 => bA (pV h25 x0 11 4 (.inr (some q26))) fun h28 => nw h28 (.inl (0, 54, fun _ => 0)) fun q30 h29 => bA (pV h29 x0 11 5 (.inr (some q30))) fun h32 => nw h32 (.inl (0, 54, fun _ => 0)) fun q34 h33 => bA (pV h33 x0 11 6 (.inr (some q34))) fun h36 => nw h36 (.inl (0, 54, fun _ => 0)) fun q38 h37 => bA (pV h37 x0 11 7 (.inr (some q38))) fun h40 => nw h40 (.inl (0, 1296, fun _ => 0)) fun q42 h41 => bA (pV h41 x0 11 8 (.inr (some q42))) fun h44 => nw h44 (.inl (0, 110, fun _ => 0)) fun q46 h45 => bA (pV h45 x0 11 10 (.inr (some q46))) fun h48 => nw h48 (.inl (0, 8, fun _ => 0)) fun q50 h49 => bA (pV h49 x0 11 19 (.inr (some q50))) fun h52 => nw h52 (.inl (0, 8, fun _ => 0)) fun q54 h53 => bA (pV h53 x0 11 20 (.inr (some q54))) fun h56 => nw h56 (.inl (0, 20, fun _ => 0)) fun q58 h57 => bA (pV h57 x0 11 26 (.inr (some q58))) fun h60 => nw h60 (.inl (1, 2, fun _ => 0)) fun q62 h61 => bA (pV h61 x0 11 28 (.inr (some q62))) fun h64 => nw h64 (.inl (0, 108, fun _ => 0)) fun q66 h65 => bA (pV h65 x0 11 29 (.inr (some q66))) fun h68 => nw h68 (.inl (0, 16, fun _ => 0)) fun q70 h69 => bA (pV h69 x0 11 30 (.inr (some q70))) fun h72 => some h72

theorem m_X12_init : MI yX12_init cX12_init 1 none 0 := ⟨co_X12_init, ini_X12, by decide, by decide +kernel⟩
set_option maxRecDepth 100000 in
set_option maxHeartbeats 4000000 in
theorem k_X12_init {lo : Nat} {h : Hp} {x0 : Nat} {h' : Hp} (e : f_X12_init h x0 = some h') : ∀ l d, AC l d lo yX12_init cX12_init 1 none ({ frames := 1, cells := 14, slots := 2066, locals := 20 } : Room) [.ref (lo + x0)] h none h' := by
  intro l d
  refine AC_of (by decide) (Nat.le_of_ble_eq_true rfl) ?_
  intro G C hN _ q
  unfold f_X12_init at e
  show AW G lo 0 0 0 [(0, .ref (lo + x0))] [] h
  refine a_aload_n C dX12_init_0 rfl 0 rfl ?_
  refine a_objinit C ml_X12_1 im_objinit co_objinit (Nat.le_of_ble_eq_true rfl) (Nat.le_of_ble_eq_true rfl) dX12_init_1 ?_
  refine a_aload_n C dX12_init_4 rfl 0 rfl ?_
  refine a_bipush (v := (8 : Int32)) C dX12_init_5 (by decide) ?_
  refine a_newa (N := 8) C (by decide) (by decide) (Nat.le_of_ble_eq_true rfl) (Nat.le_of_ble_eq_true rfl) (Nat.le_of_ble_eq_true rfl) dX12_init_7 ?_
  obtain ⟨q2, h1, e0_q2, e1_h1, e⟩ := nw_some e
  rw [← e0_q2, ← e1_h1]
  show AW G lo 1 8 9 [(0, .ref (lo + x0))] [.ref (lo + q2), .ref (lo + x0)] h1
  refine a_dup C dX12_init_9 rfl ?_
  refine a_iconst (v := (0 : Int32)) C dX12_init_10 (by decide) ?_
  refine a_iconst (v := (-1 : Int32)) C dX12_init_11 (by decide) ?_
  obtain ⟨h3, e4, e⟩ := bA_some e
  refine a_iast C dX12_init_12 e4 ?_
  refine a_dup C dX12_init_13 rfl ?_
  refine a_iconst (v := (1 : Int32)) C dX12_init_14 (by decide) ?_
  refine a_iconst (v := (-1 : Int32)) C dX12_init_15 (by decide) ?_
  obtain ⟨h5, e6, e⟩ := bA_some e
  refine a_iast C dX12_init_16 e6 ?_
  refine a_dup C dX12_init_17 rfl ?_
  refine a_iconst (v := (2 : Int32)) C dX12_init_18 (by decide) ?_
  refine a_iconst (v := (-1 : Int32)) C dX12_init_19 (by decide) ?_
  obtain ⟨h7, e8, e⟩ := bA_some e
  refine a_iast C dX12_init_20 e8 ?_
  refine a_dup C dX12_init_21 rfl ?_
  refine a_iconst (v := (3 : Int32)) C dX12_init_22 (by decide) ?_
  refine a_iconst (v := (-1 : Int32)) C dX12_init_23 (by decide) ?_
  obtain ⟨h9, e10, e⟩ := bA_some e
  refine a_iast C dX12_init_24 e10 ?_
  refine a_dup C dX12_init_25 rfl ?_
  refine a_iconst (v := (4 : Int32)) C dX12_init_26 (by decide) ?_
  refine a_iconst (v := (-1 : Int32)) C dX12_init_27 (by decide) ?_
  obtain ⟨h11, e12, e⟩ := bA_some e
  refine a_iast C dX12_init_28 e12 ?_
  refine a_dup C dX12_init_29 rfl ?_
  refine a_iconst (v := (5 : Int32)) C dX12_init_30 (by decide) ?_
  refine a_iconst (v := (-1 : Int32)) C dX12_init_31 (by decide) ?_
  obtain ⟨h13, e14, e⟩ := bA_some e
  refine a_iast C dX12_init_32 e14 ?_
  refine a_dup C dX12_init_33 rfl ?_
  refine a_bipush (v := (6 : Int32)) C dX12_init_34 (by decide) ?_
  refine a_iconst (v := (-1 : Int32)) C dX12_init_36 (by decide) ?_
  obtain ⟨h15, e16, e⟩ := bA_some e
  refine a_iast C dX12_init_37 e16 ?_
  refine a_dup C dX12_init_38 rfl ?_
  refine a_bipush (v := (7 : Int32)) C dX12_init_39 (by decide) ?_
  refine a_iconst (v := (-1 : Int32)) C dX12_init_41 (by decide) ?_
  obtain ⟨h17, e18, e⟩ := bA_some e
  refine a_iast C dX12_init_42 e18 ?_
  obtain ⟨h20, e19, e⟩ := bA_some e
  refine a_putFR (t := (.array .int)) C hN cb11 2 (by decide) fl_X12_7 rfl rfl (by decide +kernel) rfl rfl dX12_init_43 e19 ?_
  refine a_aload_n C dX12_init_46 rfl 0 rfl ?_
  refine a_bipush (v := (8 : Int32)) C dX12_init_47 (by decide) ?_
  refine a_newa (N := 8) C (by decide) (by decide) (Nat.le_of_ble_eq_true rfl) (Nat.le_of_ble_eq_true rfl) (Nat.le_of_ble_eq_true rfl) dX12_init_49 ?_
  obtain ⟨q22, h21, e0_q22, e1_h21, e⟩ := nw_some e
  rw [← e0_q22, ← e1_h21]
  show AW G lo 2 16 51 [(0, .ref (lo + x0))] [.ref (lo + q22), .ref (lo + x0)] h21
  obtain ⟨h24, e23, e⟩ := bA_some e
  refine a_putFR (t := (.array .int)) C hN cb11 3 (by decide) fl_X12_13 rfl rfl (by decide +kernel) rfl rfl dX12_init_51 e23 ?_
  refine a_aload_n C dX12_init_54 rfl 0 rfl ?_
  refine a_sipush (v := (320 : Int32)) C dX12_init_55 (by decide) ?_
  refine a_newa (N := 320) C (by decide) (by decide) (Nat.le_of_ble_eq_true rfl) (Nat.le_of_ble_eq_true rfl) (Nat.le_of_ble_eq_true rfl) dX12_init_58 ?_
  obtain ⟨q26, h25, e0_q26, e1_h25, e⟩ := nw_some e
  rw [← e0_q26, ← e1_h25]
  show AW G lo 3 336 60 [(0, .ref (lo + x0))] [.ref (lo + q26), .ref (lo + x0)] h25
  obtain ⟨h28, e27, e⟩ := bA_some e
  refine a_putFR (t := (.array .int)) C hN cb11 4 (by decide) fl_X12_16 rfl rfl (by decide +kernel) rfl rfl dX12_init_60 e27 ?_
  refine a_aload_n C dX12_init_63 rfl 0 rfl ?_
  refine a_bipush (v := (54 : Int32)) C dX12_init_64 (by decide) ?_
  refine a_newa (N := 54) C (by decide) (by decide) (Nat.le_of_ble_eq_true rfl) (Nat.le_of_ble_eq_true rfl) (Nat.le_of_ble_eq_true rfl) dX12_init_66 ?_
  obtain ⟨q30, h29, e0_q30, e1_h29, e⟩ := nw_some e
  rw [← e0_q30, ← e1_h29]
  show AW G lo 4 390 68 [(0, .ref (lo + x0))] [.ref (lo + q30), .ref (lo + x0)] h29
  obtain ⟨h32, e31, e⟩ := bA_some e
  refine a_putFR (t := (.array .int)) C hN cb11 5 (by decide) fl_X12_19 rfl rfl (by decide +kernel) rfl rfl dX12_init_68 e31 ?_
  refine a_aload_n C dX12_init_71 rfl 0 rfl ?_
  refine a_bipush (v := (54 : Int32)) C dX12_init_72 (by decide) ?_
  refine a_newa (N := 54) C (by decide) (by decide) (Nat.le_of_ble_eq_true rfl) (Nat.le_of_ble_eq_true rfl) (Nat.le_of_ble_eq_true rfl) dX12_init_74 ?_
  obtain ⟨q34, h33, e0_q34, e1_h33, e⟩ := nw_some e
  rw [← e0_q34, ← e1_h33]
  show AW G lo 5 444 76 [(0, .ref (lo + x0))] [.ref (lo + q34), .ref (lo + x0)] h33
  obtain ⟨h36, e35, e⟩ := bA_some e
  refine a_putFR (t := (.array .int)) C hN cb11 6 (by decide) fl_X12_22 rfl rfl (by decide +kernel) rfl rfl dX12_init_76 e35 ?_
  refine a_aload_n C dX12_init_79 rfl 0 rfl ?_
  refine a_bipush (v := (54 : Int32)) C dX12_init_80 (by decide) ?_
  refine a_newa (N := 54) C (by decide) (by decide) (Nat.le_of_ble_eq_true rfl) (Nat.le_of_ble_eq_true rfl) (Nat.le_of_ble_eq_true rfl) dX12_init_82 ?_
  obtain ⟨q38, h37, e0_q38, e1_h37, e⟩ := nw_some e
  rw [← e0_q38, ← e1_h37]
  show AW G lo 6 498 84 [(0, .ref (lo + x0))] [.ref (lo + q38), .ref (lo + x0)] h37
  obtain ⟨h40, e39, e⟩ := bA_some e
  refine a_putFR (t := (.array .int)) C hN cb11 7 (by decide) fl_X12_25 rfl rfl (by decide +kernel) rfl rfl dX12_init_84 e39 ?_
  refine a_aload_n C dX12_init_87 rfl 0 rfl ?_
  refine a_sipush (v := (1296 : Int32)) C dX12_init_88 (by decide) ?_
  refine a_newa (N := 1296) C (by decide) (by decide) (Nat.le_of_ble_eq_true rfl) (Nat.le_of_ble_eq_true rfl) (Nat.le_of_ble_eq_true rfl) dX12_init_91 ?_
  obtain ⟨q42, h41, e0_q42, e1_h41, e⟩ := nw_some e
  rw [← e0_q42, ← e1_h41]
  show AW G lo 7 1794 93 [(0, .ref (lo + x0))] [.ref (lo + q42), .ref (lo + x0)] h41
  obtain ⟨h44, e43, e⟩ := bA_some e
  refine a_putFR (t := (.array .int)) C hN cb11 8 (by decide) fl_X12_28 rfl rfl (by decide +kernel) rfl rfl dX12_init_93 e43 ?_
  refine a_aload_n C dX12_init_96 rfl 0 rfl ?_
  refine a_bipush (v := (110 : Int32)) C dX12_init_97 (by decide) ?_
  refine a_newa (N := 110) C (by decide) (by decide) (Nat.le_of_ble_eq_true rfl) (Nat.le_of_ble_eq_true rfl) (Nat.le_of_ble_eq_true rfl) dX12_init_99 ?_
  obtain ⟨q46, h45, e0_q46, e1_h45, e⟩ := nw_some e
  rw [← e0_q46, ← e1_h45]
  show AW G lo 8 1904 101 [(0, .ref (lo + x0))] [.ref (lo + q46), .ref (lo + x0)] h45
  obtain ⟨h48, e47, e⟩ := bA_some e
  refine a_putFR (t := (.array .int)) C hN cb11 10 (by decide) fl_X12_31 rfl rfl (by decide +kernel) rfl rfl dX12_init_101 e47 ?_
  refine a_aload_n C dX12_init_104 rfl 0 rfl ?_
  refine a_bipush (v := (8 : Int32)) C dX12_init_105 (by decide) ?_
  refine a_newa (N := 8) C (by decide) (by decide) (Nat.le_of_ble_eq_true rfl) (Nat.le_of_ble_eq_true rfl) (Nat.le_of_ble_eq_true rfl) dX12_init_107 ?_
  obtain ⟨q50, h49, e0_q50, e1_h49, e⟩ := nw_some e
  rw [← e0_q50, ← e1_h49]
  show AW G lo 9 1912 109 [(0, .ref (lo + x0))] [.ref (lo + q50), .ref (lo + x0)] h49
  obtain ⟨h52, e51, e⟩ := bA_some e
  refine a_putFR (t := (.array .int)) C hN cb11 19 (by decide) fl_X12_34 rfl rfl (by decide +kernel) rfl rfl dX12_init_109 e51 ?_
  refine a_aload_n C dX12_init_112 rfl 0 rfl ?_
  refine a_bipush (v := (8 : Int32)) C dX12_init_113 (by decide) ?_
  refine a_newa (N := 8) C (by decide) (by decide) (Nat.le_of_ble_eq_true rfl) (Nat.le_of_ble_eq_true rfl) (Nat.le_of_ble_eq_true rfl) dX12_init_115 ?_
  obtain ⟨q54, h53, e0_q54, e1_h53, e⟩ := nw_some e
  rw [← e0_q54, ← e1_h53]
  show AW G lo 10 1920 117 [(0, .ref (lo + x0))] [.ref (lo + q54), .ref (lo + x0)] h53
  obtain ⟨h56, e55, e⟩ := bA_some e
  refine a_putFR (t := (.array .int)) C hN cb11 20 (by decide) fl_X12_37 rfl rfl (by decide +kernel) rfl rfl dX12_init_117 e55 ?_
  refine a_aload_n C dX12_init_120 rfl 0 rfl ?_
  refine a_bipush (v := (20 : Int32)) C dX12_init_121 (by decide) ?_
  refine a_newa (N := 20) C (by decide) (by decide) (Nat.le_of_ble_eq_true rfl) (Nat.le_of_ble_eq_true rfl) (Nat.le_of_ble_eq_true rfl) dX12_init_123 ?_
  obtain ⟨q58, h57, e0_q58, e1_h57, e⟩ := nw_some e
  rw [← e0_q58, ← e1_h57]
  show AW G lo 11 1940 125 [(0, .ref (lo + x0))] [.ref (lo + q58), .ref (lo + x0)] h57
  obtain ⟨h60, e59, e⟩ := bA_some e
  refine a_putFR (t := (.array .int)) C hN cb11 26 (by decide) fl_X12_40 rfl rfl (by decide +kernel) rfl rfl dX12_init_125 e59 ?_
  refine a_aload_n C dX12_init_128 rfl 0 rfl ?_
  refine a_iconst (v := (2 : Int32)) C dX12_init_129 (by decide) ?_
  refine a_newz (N := 2) C (by decide) (by decide) (Nat.le_of_ble_eq_true rfl) (Nat.le_of_ble_eq_true rfl) (Nat.le_of_ble_eq_true rfl) dX12_init_130 ?_
  obtain ⟨q62, h61, e0_q62, e1_h61, e⟩ := nw_some e
  rw [← e0_q62, ← e1_h61]
  show AW G lo 12 1942 132 [(0, .ref (lo + x0))] [.ref (lo + q62), .ref (lo + x0)] h61
  obtain ⟨h64, e63, e⟩ := bA_some e
  refine a_putFR (t := (.array .boolean)) C hN cb11 28 (by decide) fl_X12_43 rfl rfl (by decide +kernel) rfl rfl dX12_init_132 e63 ?_
  refine a_aload_n C dX12_init_135 rfl 0 rfl ?_
  refine a_bipush (v := (108 : Int32)) C dX12_init_136 (by decide) ?_
  refine a_newa (N := 108) C (by decide) (by decide) (Nat.le_of_ble_eq_true rfl) (Nat.le_of_ble_eq_true rfl) (Nat.le_of_ble_eq_true rfl) dX12_init_138 ?_
  obtain ⟨q66, h65, e0_q66, e1_h65, e⟩ := nw_some e
  rw [← e0_q66, ← e1_h65]
  show AW G lo 13 2050 140 [(0, .ref (lo + x0))] [.ref (lo + q66), .ref (lo + x0)] h65
  obtain ⟨h68, e67, e⟩ := bA_some e
  refine a_putFR (t := (.array .int)) C hN cb11 29 (by decide) fl_X12_47 rfl rfl (by decide +kernel) rfl rfl dX12_init_140 e67 ?_
  refine a_aload_n C dX12_init_143 rfl 0 rfl ?_
  refine a_bipush (v := (16 : Int32)) C dX12_init_144 (by decide) ?_
  refine a_newa (N := 16) C (by decide) (by decide) (Nat.le_of_ble_eq_true rfl) (Nat.le_of_ble_eq_true rfl) (Nat.le_of_ble_eq_true rfl) dX12_init_146 ?_
  obtain ⟨q70, h69, e0_q70, e1_h69, e⟩ := nw_some e
  rw [← e0_q70, ← e1_h69]
  show AW G lo 14 2066 148 [(0, .ref (lo + x0))] [.ref (lo + q70), .ref (lo + x0)] h69
  obtain ⟨h72, e71, e⟩ := bA_some e
  refine a_putFR (t := (.array .int)) C hN cb11 30 (by decide) fl_X12_50 rfl rfl (by decide +kernel) rfl rfl dX12_init_148 e71 ?_
  obtain rfl := sp1 e
  exact a_vret C q (Nat.le_of_ble_eq_true rfl) (Nat.le_of_ble_eq_true rfl) dX12_init_151

set_option maxRecDepth 100000 in
def f_X12_in (h : Hp) (x0 : Int64) (x1 : Int64) (x2 : Int64) : Option (Int32 × Hp) := bA (if (lg_cmp x0 x1) < 0 then some (0 : Int32) else (if 0 < (lg_cmp x0 x2) then some (0 : Int32) else some (1 : Int32))) fun j2 => bA (bz j2) fun z6 => some (j2, h)

theorem m_X12_in : MI yX12_in cX12_in 6 (some .boolean) 3 := ⟨co_X12_in, ini_X12, by decide, by decide +kernel⟩
set_option maxRecDepth 100000 in
set_option maxHeartbeats 4000000 in
theorem k_X12_in {lo : Nat} {h : Hp} {x0 : Int64} {x1 : Int64} {x2 : Int64} {r : Int32} {h' : Hp} (e : f_X12_in h x0 x1 x2 = some (r, h')) : ∀ l d, AC l d lo yX12_in cX12_in 6 (some .boolean) ({ frames := 0, cells := 0, slots := 0, locals := 0 } : Room) [.long x0, .long x1, .long x2] h (some (.int r)) h' := by
  intro l d
  refine AC_of (by decide) (Nat.le_of_ble_eq_true rfl) ?_
  intro G C _ _ q
  unfold f_X12_in at e
  show AW G lo 0 0 0 [(0, .long x0), (2, .long x1), (4, .long x2)] [] h
  refine a_lload_n C dX12_in_0 rfl 0 rfl ?_
  refine a_lload_n C dX12_in_1 rfl 1 rfl ?_
  refine a_lcmp C dX12_in_2 ?_
  obtain ⟨j2, eb4, e⟩ := bA_some e
  have jj3 : AW G lo 0 0 18 [(0, .long x0), (2, .long x1), (4, .long x2)] [.int j2] h := by
    obtain ⟨z6, e7, e⟩ := bA_some e
    obtain ⟨rfl, rfl⟩ := sp2 e
    exact a_zret C q (bz_some e7) (Nat.le_of_ble_eq_true rfl) (Nat.le_of_ble_eq_true rfl) dX12_in_18
  have e := eb4
  refine a_if_lt (tgt := 17) C dX12_in_3 (by decide) (fun c1 => ?_) (fun c1 => ?_)
  · have e := ip c1 e
    refine a_iconst (v := (0 : Int32)) C dX12_in_17 (by decide) ?_
    obtain rfl := sp1 e
    exact a_widen (Nat.le_of_ble_eq_true rfl) (Nat.le_of_ble_eq_true rfl) (a_sub [0, 1, 2] rfl jj3)
  · have e := iN c1 e
    refine a_lload_n C dX12_in_6 rfl 0 rfl ?_
    refine a_lload C dX12_in_7 2 rfl ?_
    refine a_lcmp C dX12_in_9 ?_
    refine a_if_gt (tgt := 17) C dX12_in_10 (by decide) (fun c5 => ?_) (fun c5 => ?_)
    · have e := ip c5 e
      refine a_iconst (v := (0 : Int32)) C dX12_in_17 (by decide) ?_
      obtain rfl := sp1 e
      exact a_widen (Nat.le_of_ble_eq_true rfl) (Nat.le_of_ble_eq_true rfl) (a_sub [0, 1, 2] rfl jj3)
    · have e := iN c5 e
      refine a_iconst (v := (1 : Int32)) C dX12_in_13 (by decide) ?_
      refine a_goto (tgt := 18) C dX12_in_14 (by decide) ?_
      obtain rfl := sp1 e
      exact a_widen (Nat.le_of_ble_eq_true rfl) (Nat.le_of_ble_eq_true rfl) (a_sub [0, 1, 2] rfl jj3)

set_option maxRecDepth 100000 in
def f_X12_finding (h : Hp) (x0 : Nat) (x1 : Int32) : Option (Int32 × Hp) := bA (pV h x0 11 1 (.inl x1)) fun h2 => some (((-1000010 : Int32) - x1), h2)

theorem m_X12_finding : MI yX12_finding cX12_finding 2 (some .int) 1 := ⟨co_X12_finding, ini_X12, by decide, by decide +kernel⟩
set_option maxRecDepth 100000 in
set_option maxHeartbeats 4000000 in
theorem k_X12_finding {lo : Nat} {h : Hp} {x0 : Nat} {x1 : Int32} {r : Int32} {h' : Hp} (e : f_X12_finding h x0 x1 = some (r, h')) : ∀ l d, AC l d lo yX12_finding cX12_finding 2 (some .int) ({ frames := 0, cells := 0, slots := 0, locals := 0 } : Room) [.ref (lo + x0), .int x1] h (some (.int r)) h' := by
  intro l d
  refine AC_of (by decide) (Nat.le_of_ble_eq_true rfl) ?_
  intro G C _ _ q
  unfold f_X12_finding at e
  show AW G lo 0 0 0 [(0, .ref (lo + x0)), (1, .int x1)] [] h
  refine a_aload_n C dX12_finding_0 rfl 0 rfl ?_
  refine a_iload_n C dX12_finding_1 rfl 1 rfl ?_
  obtain ⟨h2, e1, e⟩ := bA_some e
  refine a_putI C cb11 1 (by decide) fl_X12_57 rfl (by decide +kernel) dX12_finding_2 e1 ?_
  refine a_ldc C ko_X12_60 dX12_finding_5 ?_
  refine a_iload_n C dX12_finding_7 rfl 1 rfl ?_
  refine a_isub C dX12_finding_8 ?_
  obtain ⟨rfl, rfl⟩ := sp2 e
  exact a_iret C q (Nat.le_of_ble_eq_true rfl) (Nat.le_of_ble_eq_true rfl) dX12_finding_9

set_option maxRecDepth 100000 in
def f_X12_isRow (h : Hp) (x0 : Int32) : Option (Int32 × Hp) := b2 (f_X12_in h x0.toInt64 (0 : Int64) (7 : Int64)) fun r3 h1 => bA (bz r3) fun z9 => some (r3, h1)

theorem m_X12_isRow : MI yX12_isRow cX12_isRow 1 (some .boolean) 1 := ⟨co_X12_isRow, ini_X12, by decide, by decide +kernel⟩
set_option maxRecDepth 100000 in
set_option maxHeartbeats 4000000 in
theorem k_X12_isRow {lo : Nat} {h : Hp} {x0 : Int32} {r : Int32} {h' : Hp} (e : f_X12_isRow h x0 = some (r, h')) : ∀ l d, AC l d lo yX12_isRow cX12_isRow 1 (some .boolean) ({ frames := 1, cells := 0, slots := 0, locals := 25 } : Room) [.int x0] h (some (.int r)) h' := by
  intro l d
  refine AC_of (by decide) (Nat.le_of_ble_eq_true rfl) ?_
  intro G C _ _ q
  unfold f_X12_isRow at e
  show AW G lo 0 0 0 [(0, .int x0)] [] h
  refine a_iload_n C dX12_isRow_0 rfl 0 rfl ?_
  refine a_i2l C dX12_isRow_1 ?_
  refine a_lconst (v := (0 : Int64)) C dX12_isRow_2 (by decide) ?_
  refine a_ldc2 C kL_X12_61 dX12_isRow_3 ?_
  obtain ⟨r3, h1, e2, e⟩ := b2_some e
  refine a_callS (as := [.long x0.toInt64, .long (0 : Int64), .long (7 : Int64)]) (rest := []) C m_X12_in sm_X12_in ml_X12_63 rfl (Nat.le_of_ble_eq_true rfl) (Nat.le_of_ble_eq_true rfl) (Nat.le_of_ble_eq_true rfl) (Nat.le_of_ble_eq_true rfl) (Nat.le_of_ble_eq_true rfl) dX12_isRow_6 (k_X12_in e2) rfl ?_
  show AW G lo 0 0 9 [(0, .int x0)] [.int r3] h1
  obtain ⟨z9, e10, e⟩ := bA_some e
  obtain ⟨rfl, rfl⟩ := sp2 e
  exact a_zret C q (bz_some e10) (Nat.le_of_ble_eq_true rfl) (Nat.le_of_ble_eq_true rfl) dX12_isRow_9

set_option maxRecDepth 100000 in
def f_X12_row_L65 {β : Type} (k : Int32 → Hp → Option (β)) (x0 : Nat) (x1 : Int32) (x2 : Int32) (x3 : Int32) : Nat → Hp → Int32 → Option (β)
  | 0, _, _ => none
  | fuel + 1, h, x4 => (if (40 : Int32) ≤ x4 then k x4 h else bA (gN h x0 11 4) fun a35 => bA (ast h a35 0 (((40 : Int32) * x1) + x4) (0 : Int32)) fun h36 => f_X12_row_L65 k x0 x1 x2 x3 fuel h36 (x4 + (1 : Int32)))

set_option maxRecDepth 100000 in
def f_X12_row (h : Hp) (x0 : Nat) (x1 : Int32) (x2 : Int32) (x3 : Int32) : Option (Int32 × Hp) := bA (pV h x0 11 0 (.inl (0 : Int32))) fun h2 => b2 (f_X12_isRow h2 x1) fun r5 h3 => (if r5 = 0 then some ((-1000001 : Int32), h3) else b2 (f_X12_in h3 x2.toInt64 (0 : Int64) (2 : Int64)) fun r14 h12 => (if r14 = 0 then some ((-1000001 : Int32), h12) else (if x3 ≤ (40 : Int32) then bA (pV h12 x0 11 1 (.inl (0 : Int32))) fun h23 => (if 0 ≤ x3 then bA (gN h23 x0 11 2) fun a26 => bA (ast h23 a26 0 x1 x2) fun h27 => bA (gN h27 x0 11 3) fun a30 => bA (ast h27 a30 0 x1 x3) fun h31 => f_X12_row_L65 (fun y39 h38 => some (x3, h38)) x0 x1 x2 x3 2000 h31 (0 : Int32) else bA (isC h23 x0 11) fun u46 => b2 (f_X12_finding h23 x0 (4 : Int32)) fun r42 h40 => some (r42, h40)) else some ((-1000001 : Int32), h12))))

theorem m_X12_row : MI yX12_row cX12_row 5 (some .int) 3 := ⟨co_X12_row, ini_X12, by decide, by decide +kernel⟩
set_option maxRecDepth 100000 in
set_option maxHeartbeats 4000000 in
theorem w_X12_row_L65 {G : Gm} {lo : Nat} {ce sl : Nat} (C : CX G lo cX12_row RX12 (some .int) ({ frames := 2, cells := 0, slots := 0, locals := 45 } : Room) 5) {β : Type} {res : β} {k : Int32 → Hp → Option (β)} {x0 : Nat} {x1 : Int32} {x2 : Int32} {x3 : Int32} (hk : ∀ (h : Hp) (x4 : Int32), k x4 h = some res → AW G lo ce sl 91 [(0, .ref (lo + x0)), (1, .int x1), (2, .int x2), (3, .int x3), (4, .int x4)] [] h) (hce : ce ≤ 0) (hsl : sl ≤ 0) : ∀ (fuel : Nat) (h : Hp) (x4 : Int32), f_X12_row_L65 k x0 x1 x2 x3 fuel h x4 = some res → AW G lo ce sl 65 [(0, .ref (lo + x0)), (1, .int x1), (2, .int x2), (3, .int x3), (4, .int x4)] [] h := by
  intro fuel
  induction fuel with
  | zero =>
    intro h x4 e
    cases (show (none : Option (β)) = some res from e)
  | succ fuel ih =>
    intro h x4 e
    rw [f_X12_row_L65] at e
    refine a_iload C dX12_row_65 4 rfl ?_
    refine a_bipush (v := (40 : Int32)) C dX12_row_67 (by decide) ?_
    refine a_icmp_ge (tgt := 91) C dX12_row_69 (by decide) (fun c33 => ?_) (fun c33 => ?_)
    · have e := ip c33 e
      exact a_sub [0, 1, 2, 3, 4] rfl (hk _ _ e)
    · have e := iN c33 e
      refine a_aload_n C dX12_row_72 rfl 0 rfl ?_
      obtain ⟨a35, e34, e⟩ := bA_some e
      refine a_getN C cb11 4 (by decide) fl_X12_16 rfl dX12_row_73 e34 ?_
      refine a_bipush (v := (40 : Int32)) C dX12_row_76 (by decide) ?_
      refine a_iload_n C dX12_row_78 rfl 1 rfl ?_
      refine a_imul C dX12_row_79 ?_
      refine a_iload C dX12_row_80 4 rfl ?_
      refine a_iadd C dX12_row_82 ?_
      refine a_iconst (v := (0 : Int32)) C dX12_row_83 (by decide) ?_
      obtain ⟨h36, e37, e⟩ := bA_some e
      refine a_iast C dX12_row_84 e37 ?_
      refine a_iinc (v := x4 + (1 : Int32)) (lv2 := [(4, .int (x4 + (1 : Int32))), (0, .ref (lo + x0)), (1, .int x1), (2, .int x2), (3, .int x3)]) C dX12_row_85 4 rfl rfl (by decide) rfl ?_
      refine a_goto (tgt := 65) C dX12_row_88 (by decide) ?_
      exact a_sub [1, 2, 3, 4, 0] rfl (ih _ _ e)
set_option maxRecDepth 100000 in
set_option maxHeartbeats 4000000 in
theorem k_X12_row {lo : Nat} {h : Hp} {x0 : Nat} {x1 : Int32} {x2 : Int32} {x3 : Int32} {r : Int32} {h' : Hp} (e : f_X12_row h x0 x1 x2 x3 = some (r, h')) : ∀ l d, AC l d lo yX12_row cX12_row 5 (some .int) ({ frames := 2, cells := 0, slots := 0, locals := 45 } : Room) [.ref (lo + x0), .int x1, .int x2, .int x3] h (some (.int r)) h' := by
  intro l d
  refine AC_of (by decide) (Nat.le_of_ble_eq_true rfl) ?_
  intro G C _ _ q
  unfold f_X12_row at e
  show AW G lo 0 0 0 [(0, .ref (lo + x0)), (1, .int x1), (2, .int x2), (3, .int x3)] [] h
  refine a_aload_n C dX12_row_0 rfl 0 rfl ?_
  refine a_iconst (v := (0 : Int32)) C dX12_row_1 (by decide) ?_
  obtain ⟨h2, e1, e⟩ := bA_some e
  refine a_putI C cb11 0 (by decide) fl_X12_53 rfl (by decide +kernel) dX12_row_2 e1 ?_
  refine a_iload_n C dX12_row_5 rfl 1 rfl ?_
  obtain ⟨r5, h3, e4, e⟩ := b2_some e
  refine a_callS (as := [.int x1]) (rest := []) C m_X12_isRow sm_X12_isRow ml_X12_67 rfl (Nat.le_of_ble_eq_true rfl) (Nat.le_of_ble_eq_true rfl) (Nat.le_of_ble_eq_true rfl) (Nat.le_of_ble_eq_true rfl) (Nat.le_of_ble_eq_true rfl) dX12_row_6 (k_X12_isRow e4) rfl ?_
  show AW G lo 0 0 9 [(0, .ref (lo + x0)), (1, .int x1), (2, .int x2), (3, .int x3)] [.int r5] h3
  refine a_if_eq (tgt := 30) C dX12_row_9 (by decide) (fun c11 => ?_) (fun c11 => ?_)
  · have e := ip c11 e
    refine a_ldc C ko_X12_73 dX12_row_30 ?_
    obtain ⟨rfl, rfl⟩ := sp2 e
    exact a_iret C q (Nat.le_of_ble_eq_true rfl) (Nat.le_of_ble_eq_true rfl) dX12_row_32
  · have e := iN c11 e
    refine a_iload_n C dX12_row_12 rfl 2 rfl ?_
    refine a_i2l C dX12_row_13 ?_
    refine a_lconst (v := (0 : Int64)) C dX12_row_14 (by decide) ?_
    refine a_ldc2 C kL_X12_71 dX12_row_15 ?_
    obtain ⟨r14, h12, e13, e⟩ := b2_some e
    refine a_callS (as := [.long x2.toInt64, .long (0 : Int64), .long (2 : Int64)]) (rest := []) C m_X12_in sm_X12_in ml_X12_63 rfl (Nat.le_of_ble_eq_true rfl) (Nat.le_of_ble_eq_true rfl) (Nat.le_of_ble_eq_true rfl) (Nat.le_of_ble_eq_true rfl) (Nat.le_of_ble_eq_true rfl) dX12_row_18 (k_X12_in e13) rfl ?_
    show AW G lo 0 0 21 [(0, .ref (lo + x0)), (1, .int x1), (2, .int x2), (3, .int x3)] [.int r14] h12
    refine a_if_eq (tgt := 30) C dX12_row_21 (by decide) (fun c20 => ?_) (fun c20 => ?_)
    · have e := ip c20 e
      refine a_ldc C ko_X12_73 dX12_row_30 ?_
      obtain ⟨rfl, rfl⟩ := sp2 e
      exact a_iret C q (Nat.le_of_ble_eq_true rfl) (Nat.le_of_ble_eq_true rfl) dX12_row_32
    · have e := iN c20 e
      refine a_iload_n C dX12_row_24 rfl 3 rfl ?_
      refine a_bipush (v := (40 : Int32)) C dX12_row_25 (by decide) ?_
      refine a_icmp_le (tgt := 33) C dX12_row_27 (by decide) (fun c21 => ?_) (fun c21 => ?_)
      · have e := ip c21 e
        refine a_aload_n C dX12_row_33 rfl 0 rfl ?_
        refine a_iconst (v := (0 : Int32)) C dX12_row_34 (by decide) ?_
        obtain ⟨h23, e22, e⟩ := bA_some e
        refine a_putI C cb11 1 (by decide) fl_X12_57 rfl (by decide +kernel) dX12_row_35 e22 ?_
        refine a_iload_n C dX12_row_38 rfl 3 rfl ?_
        refine a_if_ge (tgt := 48) C dX12_row_39 (by decide) (fun c24 => ?_) (fun c24 => ?_)
        · have e := ip c24 e
          refine a_aload_n C dX12_row_48 rfl 0 rfl ?_
          obtain ⟨a26, e25, e⟩ := bA_some e
          refine a_getN C cb11 2 (by decide) fl_X12_7 rfl dX12_row_49 e25 ?_
          refine a_iload_n C dX12_row_52 rfl 1 rfl ?_
          refine a_iload_n C dX12_row_53 rfl 2 rfl ?_
          obtain ⟨h27, e28, e⟩ := bA_some e
          refine a_iast C dX12_row_54 e28 ?_
          refine a_aload_n C dX12_row_55 rfl 0 rfl ?_
          obtain ⟨a30, e29, e⟩ := bA_some e
          refine a_getN C cb11 3 (by decide) fl_X12_13 rfl dX12_row_56 e29 ?_
          refine a_iload_n C dX12_row_59 rfl 1 rfl ?_
          refine a_iload_n C dX12_row_60 rfl 3 rfl ?_
          obtain ⟨h31, e32, e⟩ := bA_some e
          refine a_iast C dX12_row_61 e32 ?_
          refine a_iconst (v := (0 : Int32)) C dX12_row_62 (by decide) ?_
          refine a_istore (lv2 := [(4, .int (0 : Int32)), (0, .ref (lo + x0)), (1, .int x1), (2, .int x2), (3, .int x3)]) C dX12_row_63 (by decide) rfl ?_
          refine a_sub [1, 2, 3, 4, 0] rfl (w_X12_row_L65 C ?_ (Nat.le_of_ble_eq_true rfl) (Nat.le_of_ble_eq_true rfl) 2000 _ _ e)
          intro h38 y39 e
          show AW G lo 0 0 91 [(0, .ref (lo + x0)), (1, .int x1), (2, .int x2), (3, .int x3), (4, .int y39)] [] h38
          refine a_iload_n C dX12_row_91 rfl 3 rfl ?_
          obtain ⟨rfl, rfl⟩ := sp2 e
          exact a_iret C q (Nat.le_of_ble_eq_true rfl) (Nat.le_of_ble_eq_true rfl) dX12_row_92
        · have e := iN c24 e
          refine a_aload_n C dX12_row_42 rfl 0 rfl ?_
          refine a_iconst (v := (4 : Int32)) C dX12_row_43 (by decide) ?_
          obtain ⟨u46, ec45, e⟩ := bA_some e
          obtain ⟨fs44, eo43⟩ := isC_some ec45
          obtain ⟨r42, h40, e41, e⟩ := b2_some e
          refine a_callV (as := [.int (4 : Int32)]) (rest := []) C m_X12_finding im_X12_finding cb11 se_X12_X12_finding_X12_finding ml_X12_74 rfl (Nat.le_of_ble_eq_true rfl) (Nat.le_of_ble_eq_true rfl) (Nat.le_of_ble_eq_true rfl) (Nat.le_of_ble_eq_true rfl) (Nat.le_of_ble_eq_true rfl) dX12_row_44 eo43 (k_X12_finding e41) rfl ?_
          show AW G lo 0 0 47 [(0, .ref (lo + x0)), (1, .int x1), (2, .int x2), (3, .int x3)] [.int r42] h40
          obtain ⟨rfl, rfl⟩ := sp2 e
          exact a_iret C q (Nat.le_of_ble_eq_true rfl) (Nat.le_of_ble_eq_true rfl) dX12_row_47
      · have e := iN c21 e
        refine a_ldc C ko_X12_73 dX12_row_30 ?_
        obtain ⟨rfl, rfl⟩ := sp2 e
        exact a_iret C q (Nat.le_of_ble_eq_true rfl) (Nat.le_of_ble_eq_true rfl) dX12_row_32

set_option maxRecDepth 100000 in
def f_X12_set (h : Hp) (x0 : Nat) (x1 : Int32) (x2 : Int32) (x3 : Int32) : Option (Int32 × Hp) := bA (pV h x0 11 0 (.inl (0 : Int32))) fun h2 => b2 (f_X12_isRow h2 x1) fun r5 h3 => (if r5 = 0 then some ((-1000001 : Int32), h3) else bA (pV h3 x0 11 1 (.inl (0 : Int32))) fun h13 => bA (gN h13 x0 11 2) fun a15 => bA (ald h13 a15 0 x1) fun v16 => (if 0 ≤ v16 then bA (gN h13 x0 11 3) fun a20 => bA (ald h13 a20 0 x1) fun v21 => b2 (f_X12_in h13 x2.toInt64 (0 : Int64) ((v21 - (1 : Int32)).toInt64)) fun r25 h23 => (if r25 = 0 then bA (isC h23 x0 11) fun u59 => b2 (f_X12_finding h23 x0 (2 : Int32)) fun r55 h53 => some (r55, h53) else bA (gN h23 x0 11 4) fun a33 => bA (gN h23 x0 11 2) fun a35 => bA (ald h23 a35 0 x1) fun v36 => bA (if v36 = 0 then some x3.toInt8.toInt32 else bA (gN h23 x0 11 2) fun a43 => bA (ald h23 a43 0 x1) fun v44 => (if v44 = (1 : Int32) then some x3.toInt16.toInt32 else some x3)) fun j39 => bA (ast h23 a33 0 (((40 : Int32) * x1) + x2) j39) fun h47 => bA (gN h47 x0 11 4) fun a50 => bA (ald h47 a50 0 (((40 : Int32) * x1) + x2)) fun v51 => some (v51, h47)) else bA (isC h13 x0 11) fun u68 => b2 (f_X12_finding h13 x0 (1 : Int32)) fun r64 h62 => some (r64, h62)))

theorem m_X12_set : MI yX12_set cX12_set 4 (some .int) 3 := ⟨co_X12_set, ini_X12, by decide, by decide +kernel⟩
set_option maxRecDepth 100000 in
set_option maxHeartbeats 4000000 in
theorem k_X12_set {lo : Nat} {h : Hp} {x0 : Nat} {x1 : Int32} {x2 : Int32} {x3 : Int32} {r : Int32} {h' : Hp} (e : f_X12_set h x0 x1 x2 x3 = some (r, h')) : ∀ l d, AC l d lo yX12_set cX12_set 4 (some .int) ({ frames := 2, cells := 0, slots := 0, locals := 45 } : Room) [.ref (lo + x0), .int x1, .int x2, .int x3] h (some (.int r)) h' := by
  intro l d
  refine AC_of (by decide) (Nat.le_of_ble_eq_true rfl) ?_
  intro G C _ _ q
  unfold f_X12_set at e
  show AW G lo 0 0 0 [(0, .ref (lo + x0)), (1, .int x1), (2, .int x2), (3, .int x3)] [] h
  refine a_aload_n C dX12_set_0 rfl 0 rfl ?_
  refine a_iconst (v := (0 : Int32)) C dX12_set_1 (by decide) ?_
  obtain ⟨h2, e1, e⟩ := bA_some e
  refine a_putI C cb11 0 (by decide) fl_X12_53 rfl (by decide +kernel) dX12_set_2 e1 ?_
  refine a_iload_n C dX12_set_5 rfl 1 rfl ?_
  obtain ⟨r5, h3, e4, e⟩ := b2_some e
  refine a_callS (as := [.int x1]) (rest := []) C m_X12_isRow sm_X12_isRow ml_X12_67 rfl (Nat.le_of_ble_eq_true rfl) (Nat.le_of_ble_eq_true rfl) (Nat.le_of_ble_eq_true rfl) (Nat.le_of_ble_eq_true rfl) (Nat.le_of_ble_eq_true rfl) dX12_set_6 (k_X12_isRow e4) rfl ?_
  show AW G lo 0 0 9 [(0, .ref (lo + x0)), (1, .int x1), (2, .int x2), (3, .int x3)] [.int r5] h3
  refine a_if_ne (tgt := 15) C dX12_set_9 (by decide) (fun c11 => ?_) (fun c11 => ?_)
  · have e := iN c11 e
    refine a_aload_n C dX12_set_15 rfl 0 rfl ?_
    refine a_iconst (v := (0 : Int32)) C dX12_set_16 (by decide) ?_
    obtain ⟨h13, e12, e⟩ := bA_some e
    refine a_putI C cb11 1 (by decide) fl_X12_57 rfl (by decide +kernel) dX12_set_17 e12 ?_
    refine a_aload_n C dX12_set_20 rfl 0 rfl ?_
    obtain ⟨a15, e14, e⟩ := bA_some e
    refine a_getN C cb11 2 (by decide) fl_X12_7 rfl dX12_set_21 e14 ?_
    refine a_iload_n C dX12_set_24 rfl 1 rfl ?_
    obtain ⟨v16, e17, e⟩ := bA_some e
    refine a_iald C dX12_set_25 e17 ?_
    refine a_if_ge (tgt := 35) C dX12_set_26 (by decide) (fun c18 => ?_) (fun c18 => ?_)
    · have e := ip c18 e
      refine a_iload_n C dX12_set_35 rfl 2 rfl ?_
      refine a_i2l C dX12_set_36 ?_
      refine a_lconst (v := (0 : Int64)) C dX12_set_37 (by decide) ?_
      refine a_aload_n C dX12_set_38 rfl 0 rfl ?_
      obtain ⟨a20, e19, e⟩ := bA_some e
      refine a_getN C cb11 3 (by decide) fl_X12_13 rfl dX12_set_39 e19 ?_
      refine a_iload_n C dX12_set_42 rfl 1 rfl ?_
      obtain ⟨v21, e22, e⟩ := bA_some e
      refine a_iald C dX12_set_43 e22 ?_
      refine a_iconst (v := (1 : Int32)) C dX12_set_44 (by decide) ?_
      refine a_isub C dX12_set_45 ?_
      refine a_i2l C dX12_set_46 ?_
      obtain ⟨r25, h23, e24, e⟩ := b2_some e
      refine a_callS (as := [.long x2.toInt64, .long (0 : Int64), .long ((v21 - (1 : Int32)).toInt64)]) (rest := []) C m_X12_in sm_X12_in ml_X12_63 rfl (Nat.le_of_ble_eq_true rfl) (Nat.le_of_ble_eq_true rfl) (Nat.le_of_ble_eq_true rfl) (Nat.le_of_ble_eq_true rfl) (Nat.le_of_ble_eq_true rfl) dX12_set_47 (k_X12_in e24) rfl ?_
      show AW G lo 0 0 50 [(0, .ref (lo + x0)), (1, .int x1), (2, .int x2), (3, .int x3)] [.int r25] h23
      refine a_if_ne (tgt := 59) C dX12_set_50 (by decide) (fun c31 => ?_) (fun c31 => ?_)
      · have e := iN c31 e
        refine a_aload_n C dX12_set_59 rfl 0 rfl ?_
        obtain ⟨a33, e32, e⟩ := bA_some e
        refine a_getN C cb11 4 (by decide) fl_X12_16 rfl dX12_set_60 e32 ?_
        refine a_bipush (v := (40 : Int32)) C dX12_set_63 (by decide) ?_
        refine a_iload_n C dX12_set_65 rfl 1 rfl ?_
        refine a_imul C dX12_set_66 ?_
        refine a_iload_n C dX12_set_67 rfl 2 rfl ?_
        refine a_iadd C dX12_set_68 ?_
        refine a_aload_n C dX12_set_69 rfl 0 rfl ?_
        obtain ⟨a35, e34, e⟩ := bA_some e
        refine a_getN C cb11 2 (by decide) fl_X12_7 rfl dX12_set_70 e34 ?_
        refine a_iload_n C dX12_set_73 rfl 1 rfl ?_
        obtain ⟨v36, e37, e⟩ := bA_some e
        refine a_iald C dX12_set_74 e37 ?_
        obtain ⟨j39, eb41, e⟩ := bA_some e
        have jj40 : AW G lo 0 0 99 [(0, .ref (lo + x0)), (1, .int x1), (2, .int x2), (3, .int x3)] [.int j39, .int (((40 : Int32) * x1) + x2), .ref (lo + a33)] h23 := by
          obtain ⟨h47, e48, e⟩ := bA_some e
          refine a_iast C dX12_set_99 e48 ?_
          refine a_aload_n C dX12_set_100 rfl 0 rfl ?_
          obtain ⟨a50, e49, e⟩ := bA_some e
          refine a_getN C cb11 4 (by decide) fl_X12_16 rfl dX12_set_101 e49 ?_
          refine a_bipush (v := (40 : Int32)) C dX12_set_104 (by decide) ?_
          refine a_iload_n C dX12_set_106 rfl 1 rfl ?_
          refine a_imul C dX12_set_107 ?_
          refine a_iload_n C dX12_set_108 rfl 2 rfl ?_
          refine a_iadd C dX12_set_109 ?_
          obtain ⟨v51, e52, e⟩ := bA_some e
          refine a_iald C dX12_set_110 e52 ?_
          obtain ⟨rfl, rfl⟩ := sp2 e
          exact a_iret C q (Nat.le_of_ble_eq_true rfl) (Nat.le_of_ble_eq_true rfl) dX12_set_111
        have e := eb41
        refine a_if_ne (tgt := 83) C dX12_set_75 (by decide) (fun c38 => ?_) (fun c38 => ?_)
        · have e := iN c38 e
          refine a_aload_n C dX12_set_83 rfl 0 rfl ?_
          obtain ⟨a43, e42, e⟩ := bA_some e
          refine a_getN C cb11 2 (by decide) fl_X12_7 rfl dX12_set_84 e42 ?_
          refine a_iload_n C dX12_set_87 rfl 1 rfl ?_
          obtain ⟨v44, e45, e⟩ := bA_some e
          refine a_iald C dX12_set_88 e45 ?_
          refine a_iconst (v := (1 : Int32)) C dX12_set_89 (by decide) ?_
          refine a_icmp_ne (tgt := 98) C dX12_set_90 (by decide) (fun c46 => ?_) (fun c46 => ?_)
          · have e := iN c46 e
            refine a_iload_n C dX12_set_98 rfl 3 rfl ?_
            obtain rfl := sp1 e
            exact a_widen (Nat.le_of_ble_eq_true rfl) (Nat.le_of_ble_eq_true rfl) (a_sub [0, 1, 2, 3] rfl jj40)
          · have e := ip c46 e
            refine a_iload_n C dX12_set_93 rfl 3 rfl ?_
            refine a_i2s C dX12_set_94 ?_
            refine a_goto (tgt := 99) C dX12_set_95 (by decide) ?_
            obtain rfl := sp1 e
            exact a_widen (Nat.le_of_ble_eq_true rfl) (Nat.le_of_ble_eq_true rfl) (a_sub [0, 1, 2, 3] rfl jj40)
        · have e := ip c38 e
          refine a_iload_n C dX12_set_78 rfl 3 rfl ?_
          refine a_i2b C dX12_set_79 ?_
          refine a_goto (tgt := 99) C dX12_set_80 (by decide) ?_
          obtain rfl := sp1 e
          exact a_widen (Nat.le_of_ble_eq_true rfl) (Nat.le_of_ble_eq_true rfl) (a_sub [0, 1, 2, 3] rfl jj40)
      · have e := ip c31 e
        refine a_aload_n C dX12_set_53 rfl 0 rfl ?_
        refine a_iconst (v := (2 : Int32)) C dX12_set_54 (by decide) ?_
        obtain ⟨u59, ec58, e⟩ := bA_some e
        obtain ⟨fs57, eo56⟩ := isC_some ec58
        obtain ⟨r55, h53, e54, e⟩ := b2_some e
        refine a_callV (as := [.int (2 : Int32)]) (rest := []) C m_X12_finding im_X12_finding cb11 se_X12_X12_finding_X12_finding ml_X12_74 rfl (Nat.le_of_ble_eq_true rfl) (Nat.le_of_ble_eq_true rfl) (Nat.le_of_ble_eq_true rfl) (Nat.le_of_ble_eq_true rfl) (Nat.le_of_ble_eq_true rfl) dX12_set_55 eo56 (k_X12_finding e54) rfl ?_
        show AW G lo 0 0 58 [(0, .ref (lo + x0)), (1, .int x1), (2, .int x2), (3, .int x3)] [.int r55] h53
        obtain ⟨rfl, rfl⟩ := sp2 e
        exact a_iret C q (Nat.le_of_ble_eq_true rfl) (Nat.le_of_ble_eq_true rfl) dX12_set_58
    · have e := iN c18 e
      refine a_aload_n C dX12_set_29 rfl 0 rfl ?_
      refine a_iconst (v := (1 : Int32)) C dX12_set_30 (by decide) ?_
      obtain ⟨u68, ec67, e⟩ := bA_some e
      obtain ⟨fs66, eo65⟩ := isC_some ec67
      obtain ⟨r64, h62, e63, e⟩ := b2_some e
      refine a_callV (as := [.int (1 : Int32)]) (rest := []) C m_X12_finding im_X12_finding cb11 se_X12_X12_finding_X12_finding ml_X12_74 rfl (Nat.le_of_ble_eq_true rfl) (Nat.le_of_ble_eq_true rfl) (Nat.le_of_ble_eq_true rfl) (Nat.le_of_ble_eq_true rfl) (Nat.le_of_ble_eq_true rfl) dX12_set_31 eo65 (k_X12_finding e63) rfl ?_
      show AW G lo 0 0 34 [(0, .ref (lo + x0)), (1, .int x1), (2, .int x2), (3, .int x3)] [.int r64] h62
      obtain ⟨rfl, rfl⟩ := sp2 e
      exact a_iret C q (Nat.le_of_ble_eq_true rfl) (Nat.le_of_ble_eq_true rfl) dX12_set_34
  · have e := ip c11 e
    refine a_ldc C ko_X12_73 dX12_set_12 ?_
    obtain ⟨rfl, rfl⟩ := sp2 e
    exact a_iret C q (Nat.le_of_ble_eq_true rfl) (Nat.le_of_ble_eq_true rfl) dX12_set_14

set_option maxRecDepth 100000 in
def f_X12_copy_L143 {β : Type} (k : Int32 → Hp → Option (β)) (x0 : Nat) (x1 : Int32) (x2 : Int32) (x3 : Int32) (x4 : Int32) (x5 : Int32) (x6 : Int32) : Nat → Hp → Int32 → Option (β)
  | 0, _, _ => none
  | fuel + 1, h, x7 => (if x5 ≤ x7 then k x7 h else bA (if x6 = 0 then some ((x5 - (1 : Int32)) - x7) else some x7) fun j106 => bA (gN h x0 11 4) fun a110 => bA (gN h x0 11 4) fun a112 => bA (ald h a112 0 ((((40 : Int32) * x1) + x2) + j106)) fun v113 => bA (ast h a110 0 ((((40 : Int32) * x3) + x4) + j106) v113) fun h115 => f_X12_copy_L143 k x0 x1 x2 x3 x4 x5 x6 fuel h115 (x7 + (1 : Int32)))

set_option maxRecDepth 100000 in
def f_X12_copy (h : Hp) (x0 : Nat) (x1 : Int32) (x2 : Int32) (x3 : Int32) (x4 : Int32) (x5 : Int32) : Option (Int32 × Hp) := bA (pV h x0 11 0 (.inl (0 : Int32))) fun h2 => b2 (f_X12_isRow h2 x1) fun r5 h3 => (if r5 = 0 then some ((-1000001 : Int32), h3) else b2 (f_X12_isRow h3 x3) fun r14 h12 => (if r14 = 0 then some ((-1000001 : Int32), h12) else bA (pV h12 x0 11 1 (.inl (0 : Int32))) fun h22 => bA (gN h22 x0 11 2) fun a24 => bA (ald h22 a24 0 x1) fun v25 => (if v25 < 0 then bA (isC h22 x0 11) fun u34 => b2 (f_X12_finding h22 x0 (1 : Int32)) fun r30 h28 => some (r30, h28) else bA (gN h22 x0 11 2) fun a38 => bA (ald h22 a38 0 x3) fun v39 => (if 0 ≤ v39 then bA (gN h22 x0 11 2) fun a43 => bA (ald h22 a43 0 x1) fun v44 => bA (gN h22 x0 11 2) fun a47 => bA (ald h22 a47 0 x3) fun v48 => (if v44 = v48 then (if x2 < 0 then bA (isC h22 x0 11) fun u58 => b2 (f_X12_finding h22 x0 (2 : Int32)) fun r54 h52 => some (r54, h52) else (if x4 < 0 then bA (isC h22 x0 11) fun u68 => b2 (f_X12_finding h22 x0 (2 : Int32)) fun r64 h62 => some (r64, h62) else (if x5 < 0 then bA (isC h22 x0 11) fun u78 => b2 (f_X12_finding h22 x0 (2 : Int32)) fun r74 h72 => some (r74, h72) else bA (gN h22 x0 11 3) fun a82 => bA (ald h22 a82 0 x1) fun v83 => (if 0 < (lg_cmp (x2.toInt64 + x5.toInt64) v83.toInt64) then bA (isC h22 x0 11) fun u92 => b2 (f_X12_finding h22 x0 (2 : Int32)) fun r88 h86 => some (r88, h86) else bA (gN h22 x0 11 3) fun a96 => bA (ald h22 a96 0 x3) fun v97 => (if (lg_cmp (x4.toInt64 + x5.toInt64) v97.toInt64) ≤ 0 then bA (if x2 < x4 then some (0 : Int32) else some (1 : Int32)) fun j101 => f_X12_copy_L143 (fun y118 h117 => some (x5, h117)) x0 x1 x2 x3 x4 x5 j101 2000 h22 (0 : Int32) else bA (isC h22 x0 11) fun u125 => b2 (f_X12_finding h22 x0 (2 : Int32)) fun r121 h119 => some (r121, h119)))))) else bA (isC h22 x0 11) fun u134 => b2 (f_X12_finding h22 x0 (5 : Int32)) fun r130 h128 => some (r130, h128)) else bA (isC h22 x0 11) fun u143 => b2 (f_X12_finding h22 x0 (1 : Int32)) fun r139 h137 => some (r139, h137)))))

theorem m_X12_copy : MI yX12_copy cX12_copy 9 (some .int) 5 := ⟨co_X12_copy, ini_X12, by decide, by decide +kernel⟩
set_option maxRecDepth 100000 in
set_option maxHeartbeats 4000000 in
theorem w_X12_copy_L143 {G : Gm} {lo : Nat} {ce sl : Nat} (C : CX G lo cX12_copy RX12 (some .int) ({ frames := 2, cells := 0, slots := 0, locals := 45 } : Room) 9) {β : Type} {res : β} {k : Int32 → Hp → Option (β)} {x0 : Nat} {x1 : Int32} {x2 : Int32} {x3 : Int32} {x4 : Int32} {x5 : Int32} {x6 : Int32} (hk : ∀ (h : Hp) (x7 : Int32), k x7 h = some res → AW G lo ce sl 204 [(0, .ref (lo + x0)), (1, .int x1), (2, .int x2), (3, .int x3), (4, .int x4), (5, .int x5), (6, .int x6), (7, .int x7)] [] h) (hce : ce ≤ 0) (hsl : sl ≤ 0) : ∀ (fuel : Nat) (h : Hp) (x7 : Int32), f_X12_copy_L143 k x0 x1 x2 x3 x4 x5 x6 fuel h x7 = some res → AW G lo ce sl 143 [(0, .ref (lo + x0)), (1, .int x1), (2, .int x2), (3, .int x3), (4, .int x4), (5, .int x5), (6, .int x6), (7, .int x7)] [] h := by
  intro fuel
  induction fuel with
  | zero =>
    intro h x7 e
    cases (show (none : Option (β)) = some res from e)
  | succ fuel ih =>
    intro h x7 e
    rw [f_X12_copy_L143] at e
    refine a_iload C dX12_copy_143 7 rfl ?_
    refine a_iload C dX12_copy_145 5 rfl ?_
    refine a_icmp_ge (tgt := 204) C dX12_copy_147 (by decide) (fun c104 => ?_) (fun c104 => ?_)
    · have e := ip c104 e
      exact a_sub [0, 1, 2, 3, 4, 5, 6, 7] rfl (hk _ _ e)
    · have e := iN c104 e
      refine a_iload C dX12_copy_150 6 rfl ?_
      obtain ⟨j106, eb108, e⟩ := bA_some e
      have jj107 : AW G lo ce sl 167 [(0, .ref (lo + x0)), (1, .int x1), (2, .int x2), (3, .int x3), (4, .int x4), (5, .int x5), (6, .int x6), (7, .int x7)] [.int j106] h := by
        refine a_istore (lv2 := [(8, .int j106), (0, .ref (lo + x0)), (1, .int x1), (2, .int x2), (3, .int x3), (4, .int x4), (5, .int x5), (6, .int x6), (7, .int x7)]) C dX12_copy_167 (by decide) rfl ?_
        refine a_aload_n C dX12_copy_169 rfl 1 rfl ?_
        obtain ⟨a110, e109, e⟩ := bA_some e
        refine a_getN C cb11 4 (by decide) fl_X12_16 rfl dX12_copy_170 e109 ?_
        refine a_bipush (v := (40 : Int32)) C dX12_copy_173 (by decide) ?_
        refine a_iload_n C dX12_copy_175 rfl 4 rfl ?_
        refine a_imul C dX12_copy_176 ?_
        refine a_iload C dX12_copy_177 5 rfl ?_
        refine a_iadd C dX12_copy_179 ?_
        refine a_iload C dX12_copy_180 0 rfl ?_
        refine a_iadd C dX12_copy_182 ?_
        refine a_aload_n C dX12_copy_183 rfl 1 rfl ?_
        obtain ⟨a112, e111, e⟩ := bA_some e
        refine a_getN C cb11 4 (by decide) fl_X12_16 rfl dX12_copy_184 e111 ?_
        refine a_bipush (v := (40 : Int32)) C dX12_copy_187 (by decide) ?_
        refine a_iload_n C dX12_copy_189 rfl 2 rfl ?_
        refine a_imul C dX12_copy_190 ?_
        refine a_iload_n C dX12_copy_191 rfl 3 rfl ?_
        refine a_iadd C dX12_copy_192 ?_
        refine a_iload C dX12_copy_193 0 rfl ?_
        refine a_iadd C dX12_copy_195 ?_
        obtain ⟨v113, e114, e⟩ := bA_some e
        refine a_iald C dX12_copy_196 e114 ?_
        obtain ⟨h115, e116, e⟩ := bA_some e
        refine a_iast C dX12_copy_197 e116 ?_
        refine a_iinc (v := x7 + (1 : Int32)) (lv2 := [(7, .int (x7 + (1 : Int32))), (8, .int j106), (0, .ref (lo + x0)), (1, .int x1), (2, .int x2), (3, .int x3), (4, .int x4), (5, .int x5), (6, .int x6)]) C dX12_copy_198 8 rfl rfl (by decide) rfl ?_
        refine a_goto (tgt := 143) C dX12_copy_201 (by decide) ?_
        exact a_sub [2, 3, 4, 5, 6, 7, 8, 0] rfl (ih _ _ e)
      have e := eb108
      refine a_if_eq (tgt := 160) C dX12_copy_152 (by decide) (fun c105 => ?_) (fun c105 => ?_)
      · have e := ip c105 e
        refine a_iload C dX12_copy_160 5 rfl ?_
        refine a_iconst (v := (1 : Int32)) C dX12_copy_162 (by decide) ?_
        refine a_isub C dX12_copy_163 ?_
        refine a_iload C dX12_copy_164 7 rfl ?_
        refine a_isub C dX12_copy_166 ?_
        obtain rfl := sp1 e
        exact a_widen (Nat.le_refl _) (Nat.le_refl _) (a_sub [0, 1, 2, 3, 4, 5, 6, 7] rfl jj107)
      · have e := iN c105 e
        refine a_iload C dX12_copy_155 7 rfl ?_
        refine a_goto (tgt := 167) C dX12_copy_157 (by decide) ?_
        obtain rfl := sp1 e
        exact a_widen (Nat.le_refl _) (Nat.le_refl _) (a_sub [0, 1, 2, 3, 4, 5, 6, 7] rfl jj107)
set_option maxRecDepth 100000 in
set_option maxHeartbeats 4000000 in
theorem k_X12_copy {lo : Nat} {h : Hp} {x0 : Nat} {x1 : Int32} {x2 : Int32} {x3 : Int32} {x4 : Int32} {x5 : Int32} {r : Int32} {h' : Hp} (e : f_X12_copy h x0 x1 x2 x3 x4 x5 = some (r, h')) : ∀ l d, AC l d lo yX12_copy cX12_copy 9 (some .int) ({ frames := 2, cells := 0, slots := 0, locals := 45 } : Room) [.ref (lo + x0), .int x1, .int x2, .int x3, .int x4, .int x5] h (some (.int r)) h' := by
  intro l d
  refine AC_of (by decide) (Nat.le_of_ble_eq_true rfl) ?_
  intro G C _ _ q
  unfold f_X12_copy at e
  show AW G lo 0 0 0 [(0, .ref (lo + x0)), (1, .int x1), (2, .int x2), (3, .int x3), (4, .int x4), (5, .int x5)] [] h
  refine a_aload_n C dX12_copy_0 rfl 0 rfl ?_
  refine a_iconst (v := (0 : Int32)) C dX12_copy_1 (by decide) ?_
  obtain ⟨h2, e1, e⟩ := bA_some e
  refine a_putI C cb11 0 (by decide) fl_X12_53 rfl (by decide +kernel) dX12_copy_2 e1 ?_
  refine a_iload_n C dX12_copy_5 rfl 1 rfl ?_
  obtain ⟨r5, h3, e4, e⟩ := b2_some e
  refine a_callS (as := [.int x1]) (rest := []) C m_X12_isRow sm_X12_isRow ml_X12_67 rfl (Nat.le_of_ble_eq_true rfl) (Nat.le_of_ble_eq_true rfl) (Nat.le_of_ble_eq_true rfl) (Nat.le_of_ble_eq_true rfl) (Nat.le_of_ble_eq_true rfl) dX12_copy_6 (k_X12_isRow e4) rfl ?_
  show AW G lo 0 0 9 [(0, .ref (lo + x0)), (1, .int x1), (2, .int x2), (3, .int x3), (4, .int x4), (5, .int x5)] [.int r5] h3
  refine a_if_eq (tgt := 19) C dX12_copy_9 (by decide) (fun c11 => ?_) (fun c11 => ?_)
  · have e := ip c11 e
    refine a_ldc C ko_X12_73 dX12_copy_19 ?_
    obtain ⟨rfl, rfl⟩ := sp2 e
    exact a_iret C q (Nat.le_of_ble_eq_true rfl) (Nat.le_of_ble_eq_true rfl) dX12_copy_21
  · have e := iN c11 e
    refine a_iload_n C dX12_copy_12 rfl 3 rfl ?_
    obtain ⟨r14, h12, e13, e⟩ := b2_some e
    refine a_callS (as := [.int x3]) (rest := []) C m_X12_isRow sm_X12_isRow ml_X12_67 rfl (Nat.le_of_ble_eq_true rfl) (Nat.le_of_ble_eq_true rfl) (Nat.le_of_ble_eq_true rfl) (Nat.le_of_ble_eq_true rfl) (Nat.le_of_ble_eq_true rfl) dX12_copy_13 (k_X12_isRow e13) rfl ?_
    show AW G lo 0 0 16 [(0, .ref (lo + x0)), (1, .int x1), (2, .int x2), (3, .int x3), (4, .int x4), (5, .int x5)] [.int r14] h12
    refine a_if_ne (tgt := 22) C dX12_copy_16 (by decide) (fun c20 => ?_) (fun c20 => ?_)
    · have e := iN c20 e
      refine a_aload_n C dX12_copy_22 rfl 0 rfl ?_
      refine a_iconst (v := (0 : Int32)) C dX12_copy_23 (by decide) ?_
      obtain ⟨h22, e21, e⟩ := bA_some e
      refine a_putI C cb11 1 (by decide) fl_X12_57 rfl (by decide +kernel) dX12_copy_24 e21 ?_
      refine a_aload_n C dX12_copy_27 rfl 0 rfl ?_
      obtain ⟨a24, e23, e⟩ := bA_some e
      refine a_getN C cb11 2 (by decide) fl_X12_7 rfl dX12_copy_28 e23 ?_
      refine a_iload_n C dX12_copy_31 rfl 1 rfl ?_
      obtain ⟨v25, e26, e⟩ := bA_some e
      refine a_iald C dX12_copy_32 e26 ?_
      refine a_if_lt (tgt := 45) C dX12_copy_33 (by decide) (fun c27 => ?_) (fun c27 => ?_)
      · have e := ip c27 e
        refine a_aload_n C dX12_copy_45 rfl 0 rfl ?_
        refine a_iconst (v := (1 : Int32)) C dX12_copy_46 (by decide) ?_
        obtain ⟨u34, ec33, e⟩ := bA_some e
        obtain ⟨fs32, eo31⟩ := isC_some ec33
        obtain ⟨r30, h28, e29, e⟩ := b2_some e
        refine a_callV (as := [.int (1 : Int32)]) (rest := []) C m_X12_finding im_X12_finding cb11 se_X12_X12_finding_X12_finding ml_X12_74 rfl (Nat.le_of_ble_eq_true rfl) (Nat.le_of_ble_eq_true rfl) (Nat.le_of_ble_eq_true rfl) (Nat.le_of_ble_eq_true rfl) (Nat.le_of_ble_eq_true rfl) dX12_copy_47 eo31 (k_X12_finding e29) rfl ?_
        show AW G lo 0 0 50 [(0, .ref (lo + x0)), (1, .int x1), (2, .int x2), (3, .int x3), (4, .int x4), (5, .int x5)] [.int r30] h28
        obtain ⟨rfl, rfl⟩ := sp2 e
        exact a_iret C q (Nat.le_of_ble_eq_true rfl) (Nat.le_of_ble_eq_true rfl) dX12_copy_50
      · have e := iN c27 e
        refine a_aload_n C dX12_copy_36 rfl 0 rfl ?_
        obtain ⟨a38, e37, e⟩ := bA_some e
        refine a_getN C cb11 2 (by decide) fl_X12_7 rfl dX12_copy_37 e37 ?_
        refine a_iload_n C dX12_copy_40 rfl 3 rfl ?_
        obtain ⟨v39, e40, e⟩ := bA_some e
        refine a_iald C dX12_copy_41 e40 ?_
        refine a_if_ge (tgt := 51) C dX12_copy_42 (by decide) (fun c41 => ?_) (fun c41 => ?_)
        · have e := ip c41 e
          refine a_aload_n C dX12_copy_51 rfl 0 rfl ?_
          obtain ⟨a43, e42, e⟩ := bA_some e
          refine a_getN C cb11 2 (by decide) fl_X12_7 rfl dX12_copy_52 e42 ?_
          refine a_iload_n C dX12_copy_55 rfl 1 rfl ?_
          obtain ⟨v44, e45, e⟩ := bA_some e
          refine a_iald C dX12_copy_56 e45 ?_
          refine a_aload_n C dX12_copy_57 rfl 0 rfl ?_
          obtain ⟨a47, e46, e⟩ := bA_some e
          refine a_getN C cb11 2 (by decide) fl_X12_7 rfl dX12_copy_58 e46 ?_
          refine a_iload_n C dX12_copy_61 rfl 3 rfl ?_
          obtain ⟨v48, e49, e⟩ := bA_some e
          refine a_iald C dX12_copy_62 e49 ?_
          refine a_icmp_eq (tgt := 72) C dX12_copy_63 (by decide) (fun c50 => ?_) (fun c50 => ?_)
          · have e := ip c50 e
            refine a_iload_n C dX12_copy_72 rfl 2 rfl ?_
            refine a_if_lt (tgt := 121) C dX12_copy_73 (by decide) (fun c51 => ?_) (fun c51 => ?_)
            · have e := ip c51 e
              refine a_aload_n C dX12_copy_121 rfl 0 rfl ?_
              refine a_iconst (v := (2 : Int32)) C dX12_copy_122 (by decide) ?_
              obtain ⟨u58, ec57, e⟩ := bA_some e
              obtain ⟨fs56, eo55⟩ := isC_some ec57
              obtain ⟨r54, h52, e53, e⟩ := b2_some e
              refine a_callV (as := [.int (2 : Int32)]) (rest := []) C m_X12_finding im_X12_finding cb11 se_X12_X12_finding_X12_finding ml_X12_74 rfl (Nat.le_of_ble_eq_true rfl) (Nat.le_of_ble_eq_true rfl) (Nat.le_of_ble_eq_true rfl) (Nat.le_of_ble_eq_true rfl) (Nat.le_of_ble_eq_true rfl) dX12_copy_123 eo55 (k_X12_finding e53) rfl ?_
              show AW G lo 0 0 126 [(0, .ref (lo + x0)), (1, .int x1), (2, .int x2), (3, .int x3), (4, .int x4), (5, .int x5)] [.int r54] h52
              obtain ⟨rfl, rfl⟩ := sp2 e
              exact a_iret C q (Nat.le_of_ble_eq_true rfl) (Nat.le_of_ble_eq_true rfl) dX12_copy_126
            · have e := iN c51 e
              refine a_iload C dX12_copy_76 4 rfl ?_
              refine a_if_lt (tgt := 121) C dX12_copy_78 (by decide) (fun c61 => ?_) (fun c61 => ?_)
              · have e := ip c61 e
                refine a_aload_n C dX12_copy_121 rfl 0 rfl ?_
                refine a_iconst (v := (2 : Int32)) C dX12_copy_122 (by decide) ?_
                obtain ⟨u68, ec67, e⟩ := bA_some e
                obtain ⟨fs66, eo65⟩ := isC_some ec67
                obtain ⟨r64, h62, e63, e⟩ := b2_some e
                refine a_callV (as := [.int (2 : Int32)]) (rest := []) C m_X12_finding im_X12_finding cb11 se_X12_X12_finding_X12_finding ml_X12_74 rfl (Nat.le_of_ble_eq_true rfl) (Nat.le_of_ble_eq_true rfl) (Nat.le_of_ble_eq_true rfl) (Nat.le_of_ble_eq_true rfl) (Nat.le_of_ble_eq_true rfl) dX12_copy_123 eo65 (k_X12_finding e63) rfl ?_
                show AW G lo 0 0 126 [(0, .ref (lo + x0)), (1, .int x1), (2, .int x2), (3, .int x3), (4, .int x4), (5, .int x5)] [.int r64] h62
                obtain ⟨rfl, rfl⟩ := sp2 e
                exact a_iret C q (Nat.le_of_ble_eq_true rfl) (Nat.le_of_ble_eq_true rfl) dX12_copy_126
              · have e := iN c61 e
                refine a_iload C dX12_copy_81 5 rfl ?_
                refine a_if_lt (tgt := 121) C dX12_copy_83 (by decide) (fun c71 => ?_) (fun c71 => ?_)
                · have e := ip c71 e
                  refine a_aload_n C dX12_copy_121 rfl 0 rfl ?_
                  refine a_iconst (v := (2 : Int32)) C dX12_copy_122 (by decide) ?_
                  obtain ⟨u78, ec77, e⟩ := bA_some e
                  obtain ⟨fs76, eo75⟩ := isC_some ec77
                  obtain ⟨r74, h72, e73, e⟩ := b2_some e
                  refine a_callV (as := [.int (2 : Int32)]) (rest := []) C m_X12_finding im_X12_finding cb11 se_X12_X12_finding_X12_finding ml_X12_74 rfl (Nat.le_of_ble_eq_true rfl) (Nat.le_of_ble_eq_true rfl) (Nat.le_of_ble_eq_true rfl) (Nat.le_of_ble_eq_true rfl) (Nat.le_of_ble_eq_true rfl) dX12_copy_123 eo75 (k_X12_finding e73) rfl ?_
                  show AW G lo 0 0 126 [(0, .ref (lo + x0)), (1, .int x1), (2, .int x2), (3, .int x3), (4, .int x4), (5, .int x5)] [.int r74] h72
                  obtain ⟨rfl, rfl⟩ := sp2 e
                  exact a_iret C q (Nat.le_of_ble_eq_true rfl) (Nat.le_of_ble_eq_true rfl) dX12_copy_126
                · have e := iN c71 e
                  refine a_iload_n C dX12_copy_86 rfl 2 rfl ?_
                  refine a_i2l C dX12_copy_87 ?_
                  refine a_iload C dX12_copy_88 5 rfl ?_
                  refine a_i2l C dX12_copy_90 ?_
                  refine a_ladd C dX12_copy_91 ?_
                  refine a_aload_n C dX12_copy_92 rfl 0 rfl ?_
                  obtain ⟨a82, e81, e⟩ := bA_some e
                  refine a_getN C cb11 3 (by decide) fl_X12_13 rfl dX12_copy_93 e81 ?_
                  refine a_iload_n C dX12_copy_96 rfl 1 rfl ?_
                  obtain ⟨v83, e84, e⟩ := bA_some e
                  refine a_iald C dX12_copy_97 e84 ?_
                  refine a_i2l C dX12_copy_98 ?_
                  refine a_lcmp C dX12_copy_99 ?_
                  refine a_if_gt (tgt := 121) C dX12_copy_100 (by decide) (fun c85 => ?_) (fun c85 => ?_)
                  · have e := ip c85 e
                    refine a_aload_n C dX12_copy_121 rfl 0 rfl ?_
                    refine a_iconst (v := (2 : Int32)) C dX12_copy_122 (by decide) ?_
                    obtain ⟨u92, ec91, e⟩ := bA_some e
                    obtain ⟨fs90, eo89⟩ := isC_some ec91
                    obtain ⟨r88, h86, e87, e⟩ := b2_some e
                    refine a_callV (as := [.int (2 : Int32)]) (rest := []) C m_X12_finding im_X12_finding cb11 se_X12_X12_finding_X12_finding ml_X12_74 rfl (Nat.le_of_ble_eq_true rfl) (Nat.le_of_ble_eq_true rfl) (Nat.le_of_ble_eq_true rfl) (Nat.le_of_ble_eq_true rfl) (Nat.le_of_ble_eq_true rfl) dX12_copy_123 eo89 (k_X12_finding e87) rfl ?_
                    show AW G lo 0 0 126 [(0, .ref (lo + x0)), (1, .int x1), (2, .int x2), (3, .int x3), (4, .int x4), (5, .int x5)] [.int r88] h86
                    obtain ⟨rfl, rfl⟩ := sp2 e
                    exact a_iret C q (Nat.le_of_ble_eq_true rfl) (Nat.le_of_ble_eq_true rfl) dX12_copy_126
                  · have e := iN c85 e
                    refine a_iload C dX12_copy_103 4 rfl ?_
                    refine a_i2l C dX12_copy_105 ?_
                    refine a_iload C dX12_copy_106 5 rfl ?_
                    refine a_i2l C dX12_copy_108 ?_
                    refine a_ladd C dX12_copy_109 ?_
                    refine a_aload_n C dX12_copy_110 rfl 0 rfl ?_
                    obtain ⟨a96, e95, e⟩ := bA_some e
                    refine a_getN C cb11 3 (by decide) fl_X12_13 rfl dX12_copy_111 e95 ?_
                    refine a_iload_n C dX12_copy_114 rfl 3 rfl ?_
                    obtain ⟨v97, e98, e⟩ := bA_some e
                    refine a_iald C dX12_copy_115 e98 ?_
                    refine a_i2l C dX12_copy_116 ?_
                    refine a_lcmp C dX12_copy_117 ?_
                    refine a_if_le (tgt := 127) C dX12_copy_118 (by decide) (fun c99 => ?_) (fun c99 => ?_)
                    · have e := ip c99 e
                      refine a_iload_n C dX12_copy_127 rfl 2 rfl ?_
                      refine a_iload C dX12_copy_128 4 rfl ?_
                      obtain ⟨j101, eb103, e⟩ := bA_some e
                      have jj102 : AW G lo 0 0 138 [(0, .ref (lo + x0)), (1, .int x1), (2, .int x2), (3, .int x3), (4, .int x4), (5, .int x5)] [.int j101] h22 := by
                        refine a_istore (lv2 := [(6, .int j101), (0, .ref (lo + x0)), (1, .int x1), (2, .int x2), (3, .int x3), (4, .int x4), (5, .int x5)]) C dX12_copy_138 (by decide) rfl ?_
                        refine a_iconst (v := (0 : Int32)) C dX12_copy_140 (by decide) ?_
                        refine a_istore (lv2 := [(7, .int (0 : Int32)), (6, .int j101), (0, .ref (lo + x0)), (1, .int x1), (2, .int x2), (3, .int x3), (4, .int x4), (5, .int x5)]) C dX12_copy_141 (by decide) rfl ?_
                        refine a_sub [2, 3, 4, 5, 6, 7, 1, 0] rfl (w_X12_copy_L143 C ?_ (Nat.le_of_ble_eq_true rfl) (Nat.le_of_ble_eq_true rfl) 2000 _ _ e)
                        intro h117 y118 e
                        show AW G lo 0 0 204 [(0, .ref (lo + x0)), (1, .int x1), (2, .int x2), (3, .int x3), (4, .int x4), (5, .int x5), (6, .int j101), (7, .int y118)] [] h117
                        refine a_iload C dX12_copy_204 5 rfl ?_
                        obtain ⟨rfl, rfl⟩ := sp2 e
                        exact a_iret C q (Nat.le_of_ble_eq_true rfl) (Nat.le_of_ble_eq_true rfl) dX12_copy_206
                      have e := eb103
                      refine a_icmp_lt (tgt := 137) C dX12_copy_130 (by decide) (fun c100 => ?_) (fun c100 => ?_)
                      · have e := ip c100 e
                        refine a_iconst (v := (0 : Int32)) C dX12_copy_137 (by decide) ?_
                        obtain rfl := sp1 e
                        exact a_widen (Nat.le_of_ble_eq_true rfl) (Nat.le_of_ble_eq_true rfl) (a_sub [0, 1, 2, 3, 4, 5] rfl jj102)
                      · have e := iN c100 e
                        refine a_iconst (v := (1 : Int32)) C dX12_copy_133 (by decide) ?_
                        refine a_goto (tgt := 138) C dX12_copy_134 (by decide) ?_
                        obtain rfl := sp1 e
                        exact a_widen (Nat.le_of_ble_eq_true rfl) (Nat.le_of_ble_eq_true rfl) (a_sub [0, 1, 2, 3, 4, 5] rfl jj102)
                    · have e := iN c99 e
                      refine a_aload_n C dX12_copy_121 rfl 0 rfl ?_
                      refine a_iconst (v := (2 : Int32)) C dX12_copy_122 (by decide) ?_
                      obtain ⟨u125, ec124, e⟩ := bA_some e
                      obtain ⟨fs123, eo122⟩ := isC_some ec124
                      obtain ⟨r121, h119, e120, e⟩ := b2_some e
                      refine a_callV (as := [.int (2 : Int32)]) (rest := []) C m_X12_finding im_X12_finding cb11 se_X12_X12_finding_X12_finding ml_X12_74 rfl (Nat.le_of_ble_eq_true rfl) (Nat.le_of_ble_eq_true rfl) (Nat.le_of_ble_eq_true rfl) (Nat.le_of_ble_eq_true rfl) (Nat.le_of_ble_eq_true rfl) dX12_copy_123 eo122 (k_X12_finding e120) rfl ?_
                      show AW G lo 0 0 126 [(0, .ref (lo + x0)), (1, .int x1), (2, .int x2), (3, .int x3), (4, .int x4), (5, .int x5)] [.int r121] h119
                      obtain ⟨rfl, rfl⟩ := sp2 e
                      exact a_iret C q (Nat.le_of_ble_eq_true rfl) (Nat.le_of_ble_eq_true rfl) dX12_copy_126
          · have e := iN c50 e
            refine a_aload_n C dX12_copy_66 rfl 0 rfl ?_
            refine a_iconst (v := (5 : Int32)) C dX12_copy_67 (by decide) ?_
            obtain ⟨u134, ec133, e⟩ := bA_some e
            obtain ⟨fs132, eo131⟩ := isC_some ec133
            obtain ⟨r130, h128, e129, e⟩ := b2_some e
            refine a_callV (as := [.int (5 : Int32)]) (rest := []) C m_X12_finding im_X12_finding cb11 se_X12_X12_finding_X12_finding ml_X12_74 rfl (Nat.le_of_ble_eq_true rfl) (Nat.le_of_ble_eq_true rfl) (Nat.le_of_ble_eq_true rfl) (Nat.le_of_ble_eq_true rfl) (Nat.le_of_ble_eq_true rfl) dX12_copy_68 eo131 (k_X12_finding e129) rfl ?_
            show AW G lo 0 0 71 [(0, .ref (lo + x0)), (1, .int x1), (2, .int x2), (3, .int x3), (4, .int x4), (5, .int x5)] [.int r130] h128
            obtain ⟨rfl, rfl⟩ := sp2 e
            exact a_iret C q (Nat.le_of_ble_eq_true rfl) (Nat.le_of_ble_eq_true rfl) dX12_copy_71
        · have e := iN c41 e
          refine a_aload_n C dX12_copy_45 rfl 0 rfl ?_
          refine a_iconst (v := (1 : Int32)) C dX12_copy_46 (by decide) ?_
          obtain ⟨u143, ec142, e⟩ := bA_some e
          obtain ⟨fs141, eo140⟩ := isC_some ec142
          obtain ⟨r139, h137, e138, e⟩ := b2_some e
          refine a_callV (as := [.int (1 : Int32)]) (rest := []) C m_X12_finding im_X12_finding cb11 se_X12_X12_finding_X12_finding ml_X12_74 rfl (Nat.le_of_ble_eq_true rfl) (Nat.le_of_ble_eq_true rfl) (Nat.le_of_ble_eq_true rfl) (Nat.le_of_ble_eq_true rfl) (Nat.le_of_ble_eq_true rfl) dX12_copy_47 eo140 (k_X12_finding e138) rfl ?_
          show AW G lo 0 0 50 [(0, .ref (lo + x0)), (1, .int x1), (2, .int x2), (3, .int x3), (4, .int x4), (5, .int x5)] [.int r139] h137
          obtain ⟨rfl, rfl⟩ := sp2 e
          exact a_iret C q (Nat.le_of_ble_eq_true rfl) (Nat.le_of_ble_eq_true rfl) dX12_copy_50
    · have e := ip c20 e
      refine a_ldc C ko_X12_73 dX12_copy_19 ?_
      obtain ⟨rfl, rfl⟩ := sp2 e
      exact a_iret C q (Nat.le_of_ble_eq_true rfl) (Nat.le_of_ble_eq_true rfl) dX12_copy_21

set_option maxRecDepth 100000 in
def f_X12_drop (h : Hp) (x0 : Nat) (x1 : Int32) : Option (Int32 × Hp) := bA (pV h x0 11 0 (.inl (0 : Int32))) fun h2 => b2 (f_X12_isRow h2 x1) fun r5 h3 => (if r5 = 0 then some ((-1000001 : Int32), h3) else bA (pV h3 x0 11 1 (.inl (0 : Int32))) fun h13 => bA (gN h13 x0 11 2) fun a15 => bA (ald h13 a15 0 x1) fun v16 => (if 0 ≤ v16 then bA (gN h13 x0 11 2) fun a20 => bA (ast h13 a20 0 x1 (-1 : Int32)) fun h21 => bA (gN h21 x0 11 3) fun a24 => bA (ald h21 a24 0 x1) fun v25 => some (v25, h21) else bA (isC h13 x0 11) fun u33 => b2 (f_X12_finding h13 x0 (1 : Int32)) fun r29 h27 => some (r29, h27)))

theorem m_X12_drop : MI yX12_drop cX12_drop 2 (some .int) 1 := ⟨co_X12_drop, ini_X12, by decide, by decide +kernel⟩
set_option maxRecDepth 100000 in
set_option maxHeartbeats 4000000 in
theorem k_X12_drop {lo : Nat} {h : Hp} {x0 : Nat} {x1 : Int32} {r : Int32} {h' : Hp} (e : f_X12_drop h x0 x1 = some (r, h')) : ∀ l d, AC l d lo yX12_drop cX12_drop 2 (some .int) ({ frames := 2, cells := 0, slots := 0, locals := 45 } : Room) [.ref (lo + x0), .int x1] h (some (.int r)) h' := by
  intro l d
  refine AC_of (by decide) (Nat.le_of_ble_eq_true rfl) ?_
  intro G C _ _ q
  unfold f_X12_drop at e
  show AW G lo 0 0 0 [(0, .ref (lo + x0)), (1, .int x1)] [] h
  refine a_aload_n C dX12_drop_0 rfl 0 rfl ?_
  refine a_iconst (v := (0 : Int32)) C dX12_drop_1 (by decide) ?_
  obtain ⟨h2, e1, e⟩ := bA_some e
  refine a_putI C cb11 0 (by decide) fl_X12_53 rfl (by decide +kernel) dX12_drop_2 e1 ?_
  refine a_iload_n C dX12_drop_5 rfl 1 rfl ?_
  obtain ⟨r5, h3, e4, e⟩ := b2_some e
  refine a_callS (as := [.int x1]) (rest := []) C m_X12_isRow sm_X12_isRow ml_X12_67 rfl (Nat.le_of_ble_eq_true rfl) (Nat.le_of_ble_eq_true rfl) (Nat.le_of_ble_eq_true rfl) (Nat.le_of_ble_eq_true rfl) (Nat.le_of_ble_eq_true rfl) dX12_drop_6 (k_X12_isRow e4) rfl ?_
  show AW G lo 0 0 9 [(0, .ref (lo + x0)), (1, .int x1)] [.int r5] h3
  refine a_if_ne (tgt := 15) C dX12_drop_9 (by decide) (fun c11 => ?_) (fun c11 => ?_)
  · have e := iN c11 e
    refine a_aload_n C dX12_drop_15 rfl 0 rfl ?_
    refine a_iconst (v := (0 : Int32)) C dX12_drop_16 (by decide) ?_
    obtain ⟨h13, e12, e⟩ := bA_some e
    refine a_putI C cb11 1 (by decide) fl_X12_57 rfl (by decide +kernel) dX12_drop_17 e12 ?_
    refine a_aload_n C dX12_drop_20 rfl 0 rfl ?_
    obtain ⟨a15, e14, e⟩ := bA_some e
    refine a_getN C cb11 2 (by decide) fl_X12_7 rfl dX12_drop_21 e14 ?_
    refine a_iload_n C dX12_drop_24 rfl 1 rfl ?_
    obtain ⟨v16, e17, e⟩ := bA_some e
    refine a_iald C dX12_drop_25 e17 ?_
    refine a_if_ge (tgt := 35) C dX12_drop_26 (by decide) (fun c18 => ?_) (fun c18 => ?_)
    · have e := ip c18 e
      refine a_aload_n C dX12_drop_35 rfl 0 rfl ?_
      obtain ⟨a20, e19, e⟩ := bA_some e
      refine a_getN C cb11 2 (by decide) fl_X12_7 rfl dX12_drop_36 e19 ?_
      refine a_iload_n C dX12_drop_39 rfl 1 rfl ?_
      refine a_iconst (v := (-1 : Int32)) C dX12_drop_40 (by decide) ?_
      obtain ⟨h21, e22, e⟩ := bA_some e
      refine a_iast C dX12_drop_41 e22 ?_
      refine a_aload_n C dX12_drop_42 rfl 0 rfl ?_
      obtain ⟨a24, e23, e⟩ := bA_some e
      refine a_getN C cb11 3 (by decide) fl_X12_13 rfl dX12_drop_43 e23 ?_
      refine a_iload_n C dX12_drop_46 rfl 1 rfl ?_
      obtain ⟨v25, e26, e⟩ := bA_some e
      refine a_iald C dX12_drop_47 e26 ?_
      obtain ⟨rfl, rfl⟩ := sp2 e
      exact a_iret C q (Nat.le_of_ble_eq_true rfl) (Nat.le_of_ble_eq_true rfl) dX12_drop_48
    · have e := iN c18 e
      refine a_aload_n C dX12_drop_29 rfl 0 rfl ?_
      refine a_iconst (v := (1 : Int32)) C dX12_drop_30 (by decide) ?_
      obtain ⟨u33, ec32, e⟩ := bA_some e
      obtain ⟨fs31, eo30⟩ := isC_some ec32
      obtain ⟨r29, h27, e28, e⟩ := b2_some e
      refine a_callV (as := [.int (1 : Int32)]) (rest := []) C m_X12_finding im_X12_finding cb11 se_X12_X12_finding_X12_finding ml_X12_74 rfl (Nat.le_of_ble_eq_true rfl) (Nat.le_of_ble_eq_true rfl) (Nat.le_of_ble_eq_true rfl) (Nat.le_of_ble_eq_true rfl) (Nat.le_of_ble_eq_true rfl) dX12_drop_31 eo30 (k_X12_finding e28) rfl ?_
      show AW G lo 0 0 34 [(0, .ref (lo + x0)), (1, .int x1)] [.int r29] h27
      obtain ⟨rfl, rfl⟩ := sp2 e
      exact a_iret C q (Nat.le_of_ble_eq_true rfl) (Nat.le_of_ble_eq_true rfl) dX12_drop_34
  · have e := ip c11 e
    refine a_ldc C ko_X12_73 dX12_drop_12 ?_
    obtain ⟨rfl, rfl⟩ := sp2 e
    exact a_iret C q (Nat.le_of_ble_eq_true rfl) (Nat.le_of_ble_eq_true rfl) dX12_drop_14

set_option maxRecDepth 100000 in
def f_X12_feed (h : Hp) (x0 : Nat) (x1 : Int32) : Option (Int32 × Hp) := bA (pV h x0 11 0 (.inl (0 : Int32))) fun h2 => b2 (f_X12_in h2 x1.toInt64 (0 : Int64) (255 : Int64)) fun r5 h3 => (if r5 = 0 then some ((-1000001 : Int32), h3) else bA (gI h3 x0 11 11) fun g13 => (if g13 = (110 : Int32) then some ((-1000003 : Int32), h3) else bA (gN h3 x0 11 10) fun a16 => bA (gI h3 x0 11 11) fun g18 => bA (ast h3 a16 0 g18 x1) fun h19 => bA (gI h19 x0 11 11) fun g22 => bA (pV h19 x0 11 11 (.inl (g22 + (1 : Int32)))) fun h24 => bA (gI h24 x0 11 11) fun g26 => some (g26, h24)))

theorem m_X12_feed : MI yX12_feed cX12_feed 2 (some .int) 1 := ⟨co_X12_feed, ini_X12, by decide, by decide +kernel⟩
set_option maxRecDepth 100000 in
set_option maxHeartbeats 4000000 in
theorem k_X12_feed {lo : Nat} {h : Hp} {x0 : Nat} {x1 : Int32} {r : Int32} {h' : Hp} (e : f_X12_feed h x0 x1 = some (r, h')) : ∀ l d, AC l d lo yX12_feed cX12_feed 2 (some .int) ({ frames := 1, cells := 0, slots := 0, locals := 25 } : Room) [.ref (lo + x0), .int x1] h (some (.int r)) h' := by
  intro l d
  refine AC_of (by decide) (Nat.le_of_ble_eq_true rfl) ?_
  intro G C _ _ q
  unfold f_X12_feed at e
  show AW G lo 0 0 0 [(0, .ref (lo + x0)), (1, .int x1)] [] h
  refine a_aload_n C dX12_feed_0 rfl 0 rfl ?_
  refine a_iconst (v := (0 : Int32)) C dX12_feed_1 (by decide) ?_
  obtain ⟨h2, e1, e⟩ := bA_some e
  refine a_putI C cb11 0 (by decide) fl_X12_53 rfl (by decide +kernel) dX12_feed_2 e1 ?_
  refine a_iload_n C dX12_feed_5 rfl 1 rfl ?_
  refine a_i2l C dX12_feed_6 ?_
  refine a_lconst (v := (0 : Int64)) C dX12_feed_7 (by decide) ?_
  refine a_ldc2 C kL_X12_78 dX12_feed_8 ?_
  obtain ⟨r5, h3, e4, e⟩ := b2_some e
  refine a_callS (as := [.long x1.toInt64, .long (0 : Int64), .long (255 : Int64)]) (rest := []) C m_X12_in sm_X12_in ml_X12_63 rfl (Nat.le_of_ble_eq_true rfl) (Nat.le_of_ble_eq_true rfl) (Nat.le_of_ble_eq_true rfl) (Nat.le_of_ble_eq_true rfl) (Nat.le_of_ble_eq_true rfl) dX12_feed_11 (k_X12_in e4) rfl ?_
  show AW G lo 0 0 14 [(0, .ref (lo + x0)), (1, .int x1)] [.int r5] h3
  refine a_if_ne (tgt := 20) C dX12_feed_14 (by decide) (fun c11 => ?_) (fun c11 => ?_)
  · have e := iN c11 e
    refine a_aload_n C dX12_feed_20 rfl 0 rfl ?_
    obtain ⟨g13, e12, e⟩ := bA_some e
    refine a_getI C cb11 11 (by decide) fl_X12_80 rfl dX12_feed_21 e12 ?_
    refine a_bipush (v := (110 : Int32)) C dX12_feed_24 (by decide) ?_
    refine a_icmp_ne (tgt := 32) C dX12_feed_26 (by decide) (fun c14 => ?_) (fun c14 => ?_)
    · have e := iN c14 e
      refine a_aload_n C dX12_feed_32 rfl 0 rfl ?_
      obtain ⟨a16, e15, e⟩ := bA_some e
      refine a_getN C cb11 10 (by decide) fl_X12_31 rfl dX12_feed_33 e15 ?_
      refine a_aload_n C dX12_feed_36 rfl 0 rfl ?_
      obtain ⟨g18, e17, e⟩ := bA_some e
      refine a_getI C cb11 11 (by decide) fl_X12_80 rfl dX12_feed_37 e17 ?_
      refine a_iload_n C dX12_feed_40 rfl 1 rfl ?_
      obtain ⟨h19, e20, e⟩ := bA_some e
      refine a_iast C dX12_feed_41 e20 ?_
      refine a_aload_n C dX12_feed_42 rfl 0 rfl ?_
      refine a_dup C dX12_feed_43 rfl ?_
      obtain ⟨g22, e21, e⟩ := bA_some e
      refine a_getI C cb11 11 (by decide) fl_X12_80 rfl dX12_feed_44 e21 ?_
      refine a_iconst (v := (1 : Int32)) C dX12_feed_47 (by decide) ?_
      refine a_iadd C dX12_feed_48 ?_
      obtain ⟨h24, e23, e⟩ := bA_some e
      refine a_putI C cb11 11 (by decide) fl_X12_80 rfl (by decide +kernel) dX12_feed_49 e23 ?_
      refine a_aload_n C dX12_feed_52 rfl 0 rfl ?_
      obtain ⟨g26, e25, e⟩ := bA_some e
      refine a_getI C cb11 11 (by decide) fl_X12_80 rfl dX12_feed_53 e25 ?_
      obtain ⟨rfl, rfl⟩ := sp2 e
      exact a_iret C q (Nat.le_of_ble_eq_true rfl) (Nat.le_of_ble_eq_true rfl) dX12_feed_56
    · have e := ip c14 e
      refine a_ldc C ko_X12_83 dX12_feed_29 ?_
      obtain ⟨rfl, rfl⟩ := sp2 e
      exact a_iret C q (Nat.le_of_ble_eq_true rfl) (Nat.le_of_ble_eq_true rfl) dX12_feed_31
  · have e := ip c11 e
    refine a_ldc C ko_X12_73 dX12_feed_17 ?_
    obtain ⟨rfl, rfl⟩ := sp2 e
    exact a_iret C q (Nat.le_of_ble_eq_true rfl) (Nat.le_of_ble_eq_true rfl) dX12_feed_19

set_option maxRecDepth 100000 in
def f_X12_bad (h : Hp) (x0 : Nat) (x1 : Int32) : Option (Hp) := bA (gI h x0 11 16) fun g2 => bA (if g2 = 0 then bA (pV h x0 11 16 (.inl x1)) fun h8 => bA (gI h8 x0 11 13) fun g10 => bA (pV h8 x0 11 17 (.inl g10)) fun h12 => some h12 else some h) fun h4 => some h4

theorem m_X12_bad : MI yX12_bad cX12_bad 2 none 1 := ⟨co_X12_bad, ini_X12, by decide, by decide +kernel⟩
set_option maxRecDepth 100000 in
set_option maxHeartbeats 4000000 in
theorem k_X12_bad {lo : Nat} {h : Hp} {x0 : Nat} {x1 : Int32} {h' : Hp} (e : f_X12_bad h x0 x1 = some h') : ∀ l d, AC l d lo yX12_bad cX12_bad 2 none ({ frames := 0, cells := 0, slots := 0, locals := 0 } : Room) [.ref (lo + x0), .int x1] h none h' := by
  intro l d
  refine AC_of (by decide) (Nat.le_of_ble_eq_true rfl) ?_
  intro G C _ _ q
  unfold f_X12_bad at e
  show AW G lo 0 0 0 [(0, .ref (lo + x0)), (1, .int x1)] [] h
  refine a_aload_n C dX12_bad_0 rfl 0 rfl ?_
  obtain ⟨g2, e1, e⟩ := bA_some e
  refine a_getI C cb11 16 (by decide) fl_X12_84 rfl dX12_bad_1 e1 ?_
  obtain ⟨h4, eb6, e⟩ := bA_some e
  have jj5 : AW G lo 0 0 20 [(0, .ref (lo + x0)), (1, .int x1)] [] h4 := by
    obtain rfl := sp1 e
    exact a_vret C q (Nat.le_of_ble_eq_true rfl) (Nat.le_of_ble_eq_true rfl) dX12_bad_20
  have e := eb6
  refine a_if_ne (tgt := 20) C dX12_bad_4 (by decide) (fun c3 => ?_) (fun c3 => ?_)
  · have e := iN c3 e
    obtain rfl := sp1 e
    exact a_widen (Nat.le_of_ble_eq_true rfl) (Nat.le_of_ble_eq_true rfl) (a_sub [0, 1] rfl jj5)
  · have e := ip c3 e
    refine a_aload_n C dX12_bad_7 rfl 0 rfl ?_
    refine a_iload_n C dX12_bad_8 rfl 1 rfl ?_
    obtain ⟨h8, e7, e⟩ := bA_some e
    refine a_putI C cb11 16 (by decide) fl_X12_84 rfl (by decide +kernel) dX12_bad_9 e7 ?_
    refine a_aload_n C dX12_bad_12 rfl 0 rfl ?_
    refine a_aload_n C dX12_bad_13 rfl 0 rfl ?_
    obtain ⟨g10, e9, e⟩ := bA_some e
    refine a_getI C cb11 13 (by decide) fl_X12_87 rfl dX12_bad_14 e9 ?_
    obtain ⟨h12, e11, e⟩ := bA_some e
    refine a_putI C cb11 17 (by decide) fl_X12_90 rfl (by decide +kernel) dX12_bad_17 e11 ?_
    obtain rfl := sp1 e
    exact a_widen (Nat.le_of_ble_eq_true rfl) (Nat.le_of_ble_eq_true rfl) (a_sub [0, 1] rfl jj5)

set_option maxRecDepth 100000 in
def f_X12_nextToken_L165 {β : Type} (k : Hp → Option (β)) (x0 : Nat) : Nat → Hp → Option (β)
  | 0, _ => none
  | fuel + 1, h => bA (gI h x0 11 12) fun g83 => bA (gI h x0 11 11) fun g85 => (if g85 ≤ g83 then k  h else bA (gN h x0 11 10) fun a88 => bA (gI h x0 11 12) fun g90 => bA (ald h a88 0 g90) fun v91 => b2 (f_X12_in h v91.toInt64 (48 : Int64) (57 : Int64)) fun r95 h93 => (if r95 = 0 then k  h93 else bA (gI h93 x0 11 12) fun g103 => bA (gI h93 x0 11 13) fun g105 => bA (if (2 : Int32) ≤ (g103 - g105) then bA (gI h93 x0 11 15) fun g111 => some g111 else bA (gI h93 x0 11 15) fun g113 => bA (gN h93 x0 11 10) fun a115 => bA (gI h93 x0 11 12) fun g117 => bA (ald h93 a115 0 g117) fun v118 => some ((((10 : Int32) * g113) + v118) - (48 : Int32))) fun j107 => bA (pV h93 x0 11 15 (.inl j107)) fun h121 => bA (gI h121 x0 11 12) fun g123 => bA (pV h121 x0 11 12 (.inl (g123 + (1 : Int32)))) fun h125 => f_X12_nextToken_L165 k x0 fuel h125 ))

set_option maxRecDepth 100000 in
def f_X12_nextToken (h : Hp) (x0 : Nat) : Option (Hp) := bA (gI h x0 11 12) fun g2 => bA (pV h x0 11 13 (.inl g2)) fun h4 => bA (gI h4 x0 11 12) fun g6 => bA (gI h4 x0 11 11) fun g8 => bA (if g8 ≤ g6 then some (-1000000 : Int32) else bA (gN h4 x0 11 10) fun a14 => bA (gI h4 x0 11 12) fun g16 => bA (ald h4 a14 0 g16) fun v17 => some v17) fun j10 => bA (pV h4 x0 11 15 (.inl j10)) fun h20 => bA (gI h20 x0 11 12) fun g22 => bA (gI h20 x0 11 11) fun g24 => b2 (if g22 = g24 then some ((1 : Int32), h20) else bA (gI h20 x0 11 15) fun g31 => b2 (f_X12_in h20 g31.toInt64 (97 : Int64) (122 : Int64)) fun r34 h32 => (if r34 = 0 then bA (gI h32 x0 11 15) fun g42 => b2 (f_X12_in h32 g42.toInt64 (48 : Int64) (57 : Int64)) fun r45 h43 => (if r45 = 0 then bA (gI h43 x0 11 15) fun g53 => (if g53 = (44 : Int32) then some ((4 : Int32), h43) else bA (gI h43 x0 11 15) fun g56 => (if g56 = (59 : Int32) then some ((4 : Int32), h43) else some ((0 : Int32), h43))) else some ((3 : Int32), h43)) else some ((2 : Int32), h32))) fun j26 h27 => bA (pV h27 x0 11 14 (.inl j26)) fun h59 => bA (gI h59 x0 11 12) fun g61 => bA (gI h59 x0 11 12) fun g63 => bA (gI h59 x0 11 11) fun g65 => bA (if g65 ≤ g63 then some (0 : Int32) else some (1 : Int32)) fun j67 => bA (pV h59 x0 11 12 (.inl (g61 + j67))) fun h71 => bA (gI h71 x0 11 14) fun g73 => bA (if g73 = (3 : Int32) then bA (gI h71 x0 11 15) fun g79 => bA (pV h71 x0 11 15 (.inl (g79 - (48 : Int32)))) fun h81 => f_X12_nextToken_L165 (fun h126 => bA (gI h126 x0 11 12) fun g128 => bA (gI h126 x0 11 13) fun g130 => bA (if (g128 - g130) ≤ (2 : Int32) then some (3 : Int32) else some (0 : Int32)) fun j132 => bA (pV h126 x0 11 14 (.inl j132)) fun h136 => some h136) x0 2000 h81  else some h71) fun h75 => some h75

theorem m_X12_nextToken : MI yX12_nextToken cX12_nextToken 1 none 0 := ⟨co_X12_nextToken, ini_X12, by decide, by decide +kernel⟩
set_option maxRecDepth 100000 in
set_option maxHeartbeats 4000000 in
theorem w_X12_nextToken_L165 {G : Gm} {lo : Nat} {ce sl : Nat} (C : CX G lo cX12_nextToken RX12 none ({ frames := 1, cells := 0, slots := 0, locals := 25 } : Room) 1) {β : Type} {res : β} {k : Hp → Option (β)} {x0 : Nat} (hk : ∀ (h : Hp) , k h = some res → AW G lo ce sl 255 [(0, .ref (lo + x0))] [] h) (hce : ce ≤ 0) (hsl : sl ≤ 0) : ∀ (fuel : Nat) (h : Hp) , f_X12_nextToken_L165 k x0 fuel h  = some res → AW G lo ce sl 165 [(0, .ref (lo + x0))] [] h := by
  intro fuel
  induction fuel with
  | zero =>
    intro h  e
    cases (show (none : Option (β)) = some res from e)
  | succ fuel ih =>
    intro h  e
    rw [f_X12_nextToken_L165] at e
    refine a_aload_n C dX12_nextToken_165 rfl 0 rfl ?_
    obtain ⟨g83, e82, e⟩ := bA_some e
    refine a_getI C cb11 12 (by decide) fl_X12_93 rfl dX12_nextToken_166 e82 ?_
    refine a_aload_n C dX12_nextToken_169 rfl 0 rfl ?_
    obtain ⟨g85, e84, e⟩ := bA_some e
    refine a_getI C cb11 11 (by decide) fl_X12_80 rfl dX12_nextToken_170 e84 ?_
    refine a_icmp_ge (tgt := 255) C dX12_nextToken_173 (by decide) (fun c86 => ?_) (fun c86 => ?_)
    · have e := ip c86 e
      exact a_sub [0] rfl (hk _  e)
    · have e := iN c86 e
      refine a_aload_n C dX12_nextToken_176 rfl 0 rfl ?_
      obtain ⟨a88, e87, e⟩ := bA_some e
      refine a_getN C cb11 10 (by decide) fl_X12_31 rfl dX12_nextToken_177 e87 ?_
      refine a_aload_n C dX12_nextToken_180 rfl 0 rfl ?_
      obtain ⟨g90, e89, e⟩ := bA_some e
      refine a_getI C cb11 12 (by decide) fl_X12_93 rfl dX12_nextToken_181 e89 ?_
      obtain ⟨v91, e92, e⟩ := bA_some e
      refine a_iald C dX12_nextToken_184 e92 ?_
      refine a_i2l C dX12_nextToken_185 ?_
      refine a_ldc2 C kL_X12_104 dX12_nextToken_186 ?_
      refine a_ldc2 C kL_X12_106 dX12_nextToken_189 ?_
      obtain ⟨r95, h93, e94, e⟩ := b2_some e
      refine a_callS (as := [.long v91.toInt64, .long (48 : Int64), .long (57 : Int64)]) (rest := []) C m_X12_in sm_X12_in ml_X12_63 rfl (Nat.le_of_ble_eq_true rfl) (Nat.le_of_ble_eq_true rfl) (by exact hce) (by exact hsl) (Nat.le_of_ble_eq_true rfl) dX12_nextToken_192 (k_X12_in e94) rfl ?_
      show AW G lo ce sl 195 [(0, .ref (lo + x0))] [.int r95] h93
      refine a_if_eq (tgt := 255) C dX12_nextToken_195 (by decide) (fun c101 => ?_) (fun c101 => ?_)
      · have e := ip c101 e
        exact a_sub [0] rfl (hk _  e)
      · have e := iN c101 e
        refine a_aload_n C dX12_nextToken_198 rfl 0 rfl ?_
        refine a_aload_n C dX12_nextToken_199 rfl 0 rfl ?_
        obtain ⟨g103, e102, e⟩ := bA_some e
        refine a_getI C cb11 12 (by decide) fl_X12_93 rfl dX12_nextToken_200 e102 ?_
        refine a_aload_n C dX12_nextToken_203 rfl 0 rfl ?_
        obtain ⟨g105, e104, e⟩ := bA_some e
        refine a_getI C cb11 13 (by decide) fl_X12_87 rfl dX12_nextToken_204 e104 ?_
        refine a_isub C dX12_nextToken_207 ?_
        refine a_iconst (v := (2 : Int32)) C dX12_nextToken_208 (by decide) ?_
        obtain ⟨j107, eb109, e⟩ := bA_some e
        have jj108 : AW G lo ce sl 239 [(0, .ref (lo + x0))] [.int j107, .ref (lo + x0)] h93 := by
          obtain ⟨h121, e120, e⟩ := bA_some e
          refine a_putI C cb11 15 (by decide) fl_X12_97 rfl (by decide +kernel) dX12_nextToken_239 e120 ?_
          refine a_aload_n C dX12_nextToken_242 rfl 0 rfl ?_
          refine a_dup C dX12_nextToken_243 rfl ?_
          obtain ⟨g123, e122, e⟩ := bA_some e
          refine a_getI C cb11 12 (by decide) fl_X12_93 rfl dX12_nextToken_244 e122 ?_
          refine a_iconst (v := (1 : Int32)) C dX12_nextToken_247 (by decide) ?_
          refine a_iadd C dX12_nextToken_248 ?_
          obtain ⟨h125, e124, e⟩ := bA_some e
          refine a_putI C cb11 12 (by decide) fl_X12_93 rfl (by decide +kernel) dX12_nextToken_249 e124 ?_
          refine a_goto (tgt := 165) C dX12_nextToken_252 (by decide) ?_
          exact a_sub [0] rfl (ih _  e)
        have e := eb109
        refine a_icmp_ge (tgt := 235) C dX12_nextToken_209 (by decide) (fun c106 => ?_) (fun c106 => ?_)
        · have e := ip c106 e
          refine a_aload_n C dX12_nextToken_235 rfl 0 rfl ?_
          obtain ⟨g111, e110, e⟩ := bA_some e
          refine a_getI C cb11 15 (by decide) fl_X12_97 rfl dX12_nextToken_236 e110 ?_
          obtain rfl := sp1 e
          exact a_widen (Nat.le_refl _) (Nat.le_refl _) (a_sub [0] rfl jj108)
        · have e := iN c106 e
          refine a_bipush (v := (10 : Int32)) C dX12_nextToken_212 (by decide) ?_
          refine a_aload_n C dX12_nextToken_214 rfl 0 rfl ?_
          obtain ⟨g113, e112, e⟩ := bA_some e
          refine a_getI C cb11 15 (by decide) fl_X12_97 rfl dX12_nextToken_215 e112 ?_
          refine a_imul C dX12_nextToken_218 ?_
          refine a_aload_n C dX12_nextToken_219 rfl 0 rfl ?_
          obtain ⟨a115, e114, e⟩ := bA_some e
          refine a_getN C cb11 10 (by decide) fl_X12_31 rfl dX12_nextToken_220 e114 ?_
          refine a_aload_n C dX12_nextToken_223 rfl 0 rfl ?_
          obtain ⟨g117, e116, e⟩ := bA_some e
          refine a_getI C cb11 12 (by decide) fl_X12_93 rfl dX12_nextToken_224 e116 ?_
          obtain ⟨v118, e119, e⟩ := bA_some e
          refine a_iald C dX12_nextToken_227 e119 ?_
          refine a_iadd C dX12_nextToken_228 ?_
          refine a_bipush (v := (48 : Int32)) C dX12_nextToken_229 (by decide) ?_
          refine a_isub C dX12_nextToken_231 ?_
          refine a_goto (tgt := 239) C dX12_nextToken_232 (by decide) ?_
          obtain rfl := sp1 e
          exact a_widen (Nat.le_refl _) (Nat.le_refl _) (a_sub [0] rfl jj108)
set_option maxRecDepth 100000 in
set_option maxHeartbeats 4000000 in
theorem k_X12_nextToken {lo : Nat} {h : Hp} {x0 : Nat} {h' : Hp} (e : f_X12_nextToken h x0 = some h') : ∀ l d, AC l d lo yX12_nextToken cX12_nextToken 1 none ({ frames := 1, cells := 0, slots := 0, locals := 25 } : Room) [.ref (lo + x0)] h none h' := by
  intro l d
  refine AC_of (by decide) (Nat.le_of_ble_eq_true rfl) ?_
  intro G C _ _ q
  unfold f_X12_nextToken at e
  show AW G lo 0 0 0 [(0, .ref (lo + x0))] [] h
  refine a_aload_n C dX12_nextToken_0 rfl 0 rfl ?_
  refine a_aload_n C dX12_nextToken_1 rfl 0 rfl ?_
  obtain ⟨g2, e1, e⟩ := bA_some e
  refine a_getI C cb11 12 (by decide) fl_X12_93 rfl dX12_nextToken_2 e1 ?_
  obtain ⟨h4, e3, e⟩ := bA_some e
  refine a_putI C cb11 13 (by decide) fl_X12_87 rfl (by decide +kernel) dX12_nextToken_5 e3 ?_
  refine a_aload_n C dX12_nextToken_8 rfl 0 rfl ?_
  refine a_aload_n C dX12_nextToken_9 rfl 0 rfl ?_
  obtain ⟨g6, e5, e⟩ := bA_some e
  refine a_getI C cb11 12 (by decide) fl_X12_93 rfl dX12_nextToken_10 e5 ?_
  refine a_aload_n C dX12_nextToken_13 rfl 0 rfl ?_
  obtain ⟨g8, e7, e⟩ := bA_some e
  refine a_getI C cb11 11 (by decide) fl_X12_80 rfl dX12_nextToken_14 e7 ?_
  obtain ⟨j10, eb12, e⟩ := bA_some e
  have jj11 : AW G lo 0 0 34 [(0, .ref (lo + x0))] [.int j10, .ref (lo + x0)] h4 := by
    obtain ⟨h20, e19, e⟩ := bA_some e
    refine a_putI C cb11 15 (by decide) fl_X12_97 rfl (by decide +kernel) dX12_nextToken_34 e19 ?_
    refine a_aload_n C dX12_nextToken_37 rfl 0 rfl ?_
    refine a_aload_n C dX12_nextToken_38 rfl 0 rfl ?_
    obtain ⟨g22, e21, e⟩ := bA_some e
    refine a_getI C cb11 12 (by decide) fl_X12_93 rfl dX12_nextToken_39 e21 ?_
    refine a_aload_n C dX12_nextToken_42 rfl 0 rfl ?_
    obtain ⟨g24, e23, e⟩ := bA_some e
    refine a_getI C cb11 11 (by decide) fl_X12_80 rfl dX12_nextToken_43 e23 ?_
    obtain ⟨j26, h27, eb29, e⟩ := b2_some e
    have jj28 : AW G lo 0 0 118 [(0, .ref (lo + x0))] [.int j26, .ref (lo + x0)] h27 := by
      obtain ⟨h59, e58, e⟩ := bA_some e
      refine a_putI C cb11 14 (by decide) fl_X12_108 rfl (by decide +kernel) dX12_nextToken_118 e58 ?_
      refine a_aload_n C dX12_nextToken_121 rfl 0 rfl ?_
      refine a_dup C dX12_nextToken_122 rfl ?_
      obtain ⟨g61, e60, e⟩ := bA_some e
      refine a_getI C cb11 12 (by decide) fl_X12_93 rfl dX12_nextToken_123 e60 ?_
      refine a_aload_n C dX12_nextToken_126 rfl 0 rfl ?_
      obtain ⟨g63, e62, e⟩ := bA_some e
      refine a_getI C cb11 12 (by decide) fl_X12_93 rfl dX12_nextToken_127 e62 ?_
      refine a_aload_n C dX12_nextToken_130 rfl 0 rfl ?_
      obtain ⟨g65, e64, e⟩ := bA_some e
      refine a_getI C cb11 11 (by decide) fl_X12_80 rfl dX12_nextToken_131 e64 ?_
      obtain ⟨j67, eb69, e⟩ := bA_some e
      have jj68 : AW G lo 0 0 142 [(0, .ref (lo + x0))] [.int j67, .int g61, .ref (lo + x0)] h59 := by
        refine a_iadd C dX12_nextToken_142 ?_
        obtain ⟨h71, e70, e⟩ := bA_some e
        refine a_putI C cb11 12 (by decide) fl_X12_93 rfl (by decide +kernel) dX12_nextToken_143 e70 ?_
        refine a_aload_n C dX12_nextToken_146 rfl 0 rfl ?_
        obtain ⟨g73, e72, e⟩ := bA_some e
        refine a_getI C cb11 14 (by decide) fl_X12_108 rfl dX12_nextToken_147 e72 ?_
        refine a_iconst (v := (3 : Int32)) C dX12_nextToken_150 (by decide) ?_
        obtain ⟨h75, eb77, e⟩ := bA_some e
        have jj76 : AW G lo 0 0 277 [(0, .ref (lo + x0))] [] h75 := by
          obtain rfl := sp1 e
          exact a_vret C q (Nat.le_of_ble_eq_true rfl) (Nat.le_of_ble_eq_true rfl) dX12_nextToken_277
        have e := eb77
        refine a_icmp_ne (tgt := 277) C dX12_nextToken_151 (by decide) (fun c74 => ?_) (fun c74 => ?_)
        · have e := iN c74 e
          obtain rfl := sp1 e
          exact a_widen (Nat.le_of_ble_eq_true rfl) (Nat.le_of_ble_eq_true rfl) (a_sub [0] rfl jj76)
        · have e := ip c74 e
          refine a_aload_n C dX12_nextToken_154 rfl 0 rfl ?_
          refine a_dup C dX12_nextToken_155 rfl ?_
          obtain ⟨g79, e78, e⟩ := bA_some e
          refine a_getI C cb11 15 (by decide) fl_X12_97 rfl dX12_nextToken_156 e78 ?_
          refine a_bipush (v := (48 : Int32)) C dX12_nextToken_159 (by decide) ?_
          refine a_isub C dX12_nextToken_161 ?_
          obtain ⟨h81, e80, e⟩ := bA_some e
          refine a_putI C cb11 15 (by decide) fl_X12_97 rfl (by decide +kernel) dX12_nextToken_162 e80 ?_
          refine a_sub [0] rfl (w_X12_nextToken_L165 C ?_ (Nat.le_of_ble_eq_true rfl) (Nat.le_of_ble_eq_true rfl) 2000 _  e)
          intro h126  e
          show AW G lo 0 0 255 [(0, .ref (lo + x0))] [] h126
          refine a_aload_n C dX12_nextToken_255 rfl 0 rfl ?_
          refine a_aload_n C dX12_nextToken_256 rfl 0 rfl ?_
          obtain ⟨g128, e127, e⟩ := bA_some e
          refine a_getI C cb11 12 (by decide) fl_X12_93 rfl dX12_nextToken_257 e127 ?_
          refine a_aload_n C dX12_nextToken_260 rfl 0 rfl ?_
          obtain ⟨g130, e129, e⟩ := bA_some e
          refine a_getI C cb11 13 (by decide) fl_X12_87 rfl dX12_nextToken_261 e129 ?_
          refine a_isub C dX12_nextToken_264 ?_
          refine a_iconst (v := (2 : Int32)) C dX12_nextToken_265 (by decide) ?_
          obtain ⟨j132, eb134, e⟩ := bA_some e
          have jj133 : AW G lo 0 0 274 [(0, .ref (lo + x0))] [.int j132, .ref (lo + x0)] h126 := by
            obtain ⟨h136, e135, e⟩ := bA_some e
            refine a_putI C cb11 14 (by decide) fl_X12_108 rfl (by decide +kernel) dX12_nextToken_274 e135 ?_
            obtain rfl := sp1 e
            exact a_widen (Nat.le_of_ble_eq_true rfl) (Nat.le_of_ble_eq_true rfl) (a_sub [0] rfl jj76)
          have e := eb134
          refine a_icmp_le (tgt := 273) C dX12_nextToken_266 (by decide) (fun c131 => ?_) (fun c131 => ?_)
          · have e := ip c131 e
            refine a_iconst (v := (3 : Int32)) C dX12_nextToken_273 (by decide) ?_
            obtain rfl := sp1 e
            exact a_widen (Nat.le_of_ble_eq_true rfl) (Nat.le_of_ble_eq_true rfl) (a_sub [0] rfl jj133)
          · have e := iN c131 e
            refine a_iconst (v := (0 : Int32)) C dX12_nextToken_269 (by decide) ?_
            refine a_goto (tgt := 274) C dX12_nextToken_270 (by decide) ?_
            obtain rfl := sp1 e
            exact a_widen (Nat.le_of_ble_eq_true rfl) (Nat.le_of_ble_eq_true rfl) (a_sub [0] rfl jj133)
      have e := eb69
      refine a_icmp_ge (tgt := 141) C dX12_nextToken_134 (by decide) (fun c66 => ?_) (fun c66 => ?_)
      · have e := ip c66 e
        refine a_iconst (v := (0 : Int32)) C dX12_nextToken_141 (by decide) ?_
        obtain rfl := sp1 e
        exact a_widen (Nat.le_of_ble_eq_true rfl) (Nat.le_of_ble_eq_true rfl) (a_sub [0] rfl jj68)
      · have e := iN c66 e
        refine a_iconst (v := (1 : Int32)) C dX12_nextToken_137 (by decide) ?_
        refine a_goto (tgt := 142) C dX12_nextToken_138 (by decide) ?_
        obtain rfl := sp1 e
        exact a_widen (Nat.le_of_ble_eq_true rfl) (Nat.le_of_ble_eq_true rfl) (a_sub [0] rfl jj68)
    have e := eb29
    refine a_icmp_ne (tgt := 53) C dX12_nextToken_46 (by decide) (fun c25 => ?_) (fun c25 => ?_)
    · have e := iN c25 e
      refine a_aload_n C dX12_nextToken_53 rfl 0 rfl ?_
      obtain ⟨g31, e30, e⟩ := bA_some e
      refine a_getI C cb11 15 (by decide) fl_X12_97 rfl dX12_nextToken_54 e30 ?_
      refine a_i2l C dX12_nextToken_57 ?_
      refine a_ldc2 C kL_X12_100 dX12_nextToken_58 ?_
      refine a_ldc2 C kL_X12_102 dX12_nextToken_61 ?_
      obtain ⟨r34, h32, e33, e⟩ := b2_some e
      refine a_callS (as := [.long g31.toInt64, .long (97 : Int64), .long (122 : Int64)]) (rest := [.ref (lo + x0)]) C m_X12_in sm_X12_in ml_X12_63 rfl (Nat.le_of_ble_eq_true rfl) (Nat.le_of_ble_eq_true rfl) (Nat.le_of_ble_eq_true rfl) (Nat.le_of_ble_eq_true rfl) (Nat.le_of_ble_eq_true rfl) dX12_nextToken_64 (k_X12_in e33) rfl ?_
      show AW G lo 0 0 67 [(0, .ref (lo + x0))] [.int r34, .ref (lo + x0)] h32
      refine a_if_eq (tgt := 74) C dX12_nextToken_67 (by decide) (fun c40 => ?_) (fun c40 => ?_)
      · have e := ip c40 e
        refine a_aload_n C dX12_nextToken_74 rfl 0 rfl ?_
        obtain ⟨g42, e41, e⟩ := bA_some e
        refine a_getI C cb11 15 (by decide) fl_X12_97 rfl dX12_nextToken_75 e41 ?_
        refine a_i2l C dX12_nextToken_78 ?_
        refine a_ldc2 C kL_X12_104 dX12_nextToken_79 ?_
        refine a_ldc2 C kL_X12_106 dX12_nextToken_82 ?_
        obtain ⟨r45, h43, e44, e⟩ := b2_some e
        refine a_callS (as := [.long g42.toInt64, .long (48 : Int64), .long (57 : Int64)]) (rest := [.ref (lo + x0)]) C m_X12_in sm_X12_in ml_X12_63 rfl (Nat.le_of_ble_eq_true rfl) (Nat.le_of_ble_eq_true rfl) (Nat.le_of_ble_eq_true rfl) (Nat.le_of_ble_eq_true rfl) (Nat.le_of_ble_eq_true rfl) dX12_nextToken_85 (k_X12_in e44) rfl ?_
        show AW G lo 0 0 88 [(0, .ref (lo + x0))] [.int r45, .ref (lo + x0)] h43
        refine a_if_eq (tgt := 95) C dX12_nextToken_88 (by decide) (fun c51 => ?_) (fun c51 => ?_)
        · have e := ip c51 e
          refine a_aload_n C dX12_nextToken_95 rfl 0 rfl ?_
          obtain ⟨g53, e52, e⟩ := bA_some e
          refine a_getI C cb11 15 (by decide) fl_X12_97 rfl dX12_nextToken_96 e52 ?_
          refine a_bipush (v := (44 : Int32)) C dX12_nextToken_99 (by decide) ?_
          refine a_icmp_eq (tgt := 113) C dX12_nextToken_101 (by decide) (fun c54 => ?_) (fun c54 => ?_)
          · have e := ip c54 e
            refine a_iconst (v := (4 : Int32)) C dX12_nextToken_113 (by decide) ?_
            refine a_goto (tgt := 118) C dX12_nextToken_114 (by decide) ?_
            obtain ⟨rfl, rfl⟩ := sp2 e
            exact a_widen (Nat.le_of_ble_eq_true rfl) (Nat.le_of_ble_eq_true rfl) (a_sub [0] rfl jj28)
          · have e := iN c54 e
            refine a_aload_n C dX12_nextToken_104 rfl 0 rfl ?_
            obtain ⟨g56, e55, e⟩ := bA_some e
            refine a_getI C cb11 15 (by decide) fl_X12_97 rfl dX12_nextToken_105 e55 ?_
            refine a_bipush (v := (59 : Int32)) C dX12_nextToken_108 (by decide) ?_
            refine a_icmp_ne (tgt := 117) C dX12_nextToken_110 (by decide) (fun c57 => ?_) (fun c57 => ?_)
            · have e := iN c57 e
              refine a_iconst (v := (0 : Int32)) C dX12_nextToken_117 (by decide) ?_
              obtain ⟨rfl, rfl⟩ := sp2 e
              exact a_widen (Nat.le_of_ble_eq_true rfl) (Nat.le_of_ble_eq_true rfl) (a_sub [0] rfl jj28)
            · have e := ip c57 e
              refine a_iconst (v := (4 : Int32)) C dX12_nextToken_113 (by decide) ?_
              refine a_goto (tgt := 118) C dX12_nextToken_114 (by decide) ?_
              obtain ⟨rfl, rfl⟩ := sp2 e
              exact a_widen (Nat.le_of_ble_eq_true rfl) (Nat.le_of_ble_eq_true rfl) (a_sub [0] rfl jj28)
        · have e := iN c51 e
          refine a_iconst (v := (3 : Int32)) C dX12_nextToken_91 (by decide) ?_
          refine a_goto (tgt := 118) C dX12_nextToken_92 (by decide) ?_
          obtain ⟨rfl, rfl⟩ := sp2 e
          exact a_widen (Nat.le_of_ble_eq_true rfl) (Nat.le_of_ble_eq_true rfl) (a_sub [0] rfl jj28)
      · have e := iN c40 e
        refine a_iconst (v := (2 : Int32)) C dX12_nextToken_70 (by decide) ?_
        refine a_goto (tgt := 118) C dX12_nextToken_71 (by decide) ?_
        obtain ⟨rfl, rfl⟩ := sp2 e
        exact a_widen (Nat.le_of_ble_eq_true rfl) (Nat.le_of_ble_eq_true rfl) (a_sub [0] rfl jj28)
    · have e := ip c25 e
      refine a_iconst (v := (1 : Int32)) C dX12_nextToken_49 (by decide) ?_
      refine a_goto (tgt := 118) C dX12_nextToken_50 (by decide) ?_
      obtain ⟨rfl, rfl⟩ := sp2 e
      exact a_widen (Nat.le_of_ble_eq_true rfl) (Nat.le_of_ble_eq_true rfl) (a_sub [0] rfl jj28)
  have e := eb12
  refine a_icmp_ge (tgt := 32) C dX12_nextToken_17 (by decide) (fun c9 => ?_) (fun c9 => ?_)
  · have e := ip c9 e
    refine a_ldc C ko_X12_96 dX12_nextToken_32 ?_
    obtain rfl := sp1 e
    exact a_widen (Nat.le_of_ble_eq_true rfl) (Nat.le_of_ble_eq_true rfl) (a_sub [0] rfl jj11)
  · have e := iN c9 e
    refine a_aload_n C dX12_nextToken_20 rfl 0 rfl ?_
    obtain ⟨a14, e13, e⟩ := bA_some e
    refine a_getN C cb11 10 (by decide) fl_X12_31 rfl dX12_nextToken_21 e13 ?_
    refine a_aload_n C dX12_nextToken_24 rfl 0 rfl ?_
    obtain ⟨g16, e15, e⟩ := bA_some e
    refine a_getI C cb11 12 (by decide) fl_X12_93 rfl dX12_nextToken_25 e15 ?_
    obtain ⟨v17, e18, e⟩ := bA_some e
    refine a_iald C dX12_nextToken_28 e18 ?_
    refine a_goto (tgt := 34) C dX12_nextToken_29 (by decide) ?_
    obtain rfl := sp1 e
    exact a_widen (Nat.le_of_ble_eq_true rfl) (Nat.le_of_ble_eq_true rfl) (a_sub [0] rfl jj11)

set_option maxRecDepth 100000 in
def f_X12_must (h : Hp) (x0 : Nat) (x1 : Int32) : Option (Hp) := bA (if x1 = 0 then bA (isC h x0 11) fun u11 => bA (f_X12_bad h x0 (1 : Int32)) fun h5 => some h5 else some h) fun h2 => bA (gI h2 x0 11 16) fun g15 => bA (if g15 = 0 then bA (isC h2 x0 11) fun u26 => bA (f_X12_nextToken h2 x0 ) fun h20 => some h20 else some h2) fun h17 => some h17

theorem m_X12_must : MI yX12_must cX12_must 2 none 1 := ⟨co_X12_must, ini_X12, by decide, by decide +kernel⟩
set_option maxRecDepth 100000 in
set_option maxHeartbeats 4000000 in
theorem k_X12_must {lo : Nat} {h : Hp} {x0 : Nat} {x1 : Int32} {h' : Hp} (e : f_X12_must h x0 x1 = some h') : ∀ l d, AC l d lo yX12_must cX12_must 2 none ({ frames := 2, cells := 0, slots := 0, locals := 45 } : Room) [.ref (lo + x0), .int x1] h none h' := by
  intro l d
  refine AC_of (by decide) (Nat.le_of_ble_eq_true rfl) ?_
  intro G C _ _ q
  unfold f_X12_must at e
  show AW G lo 0 0 0 [(0, .ref (lo + x0)), (1, .int x1)] [] h
  refine a_iload_n C dX12_must_0 rfl 1 rfl ?_
  obtain ⟨h2, eb4, e⟩ := bA_some e
  have jj3 : AW G lo 0 0 9 [(0, .ref (lo + x0)), (1, .int x1)] [] h2 := by
    refine a_aload_n C dX12_must_9 rfl 0 rfl ?_
    obtain ⟨g15, e14, e⟩ := bA_some e
    refine a_getI C cb11 16 (by decide) fl_X12_84 rfl dX12_must_10 e14 ?_
    obtain ⟨h17, eb19, e⟩ := bA_some e
    have jj18 : AW G lo 0 0 20 [(0, .ref (lo + x0)), (1, .int x1)] [] h17 := by
      obtain rfl := sp1 e
      exact a_vret C q (Nat.le_of_ble_eq_true rfl) (Nat.le_of_ble_eq_true rfl) dX12_must_20
    have e := eb19
    refine a_if_ne (tgt := 20) C dX12_must_13 (by decide) (fun c16 => ?_) (fun c16 => ?_)
    · have e := iN c16 e
      obtain rfl := sp1 e
      exact a_widen (Nat.le_of_ble_eq_true rfl) (Nat.le_of_ble_eq_true rfl) (a_sub [0, 1] rfl jj18)
    · have e := ip c16 e
      refine a_aload_n C dX12_must_16 rfl 0 rfl ?_
      obtain ⟨u26, ec25, e⟩ := bA_some e
      obtain ⟨fs24, eo23⟩ := isC_some ec25
      obtain ⟨h20, e21, e⟩ := bA_some e
      refine a_callV (as := []) (rest := []) C m_X12_nextToken im_X12_nextToken cb11 se_X12_X12_nextToken_X12_nextToken ml_X12_115 rfl (Nat.le_of_ble_eq_true rfl) (Nat.le_of_ble_eq_true rfl) (Nat.le_of_ble_eq_true rfl) (Nat.le_of_ble_eq_true rfl) (Nat.le_of_ble_eq_true rfl) dX12_must_17 eo23 (k_X12_nextToken e21) rfl ?_
      show AW G lo 0 0 20 [(0, .ref (lo + x0)), (1, .int x1)] [] h20
      obtain rfl := sp1 e
      exact a_widen (Nat.le_of_ble_eq_true rfl) (Nat.le_of_ble_eq_true rfl) (a_sub [0, 1] rfl jj18)
  have e := eb4
  refine a_if_ne (tgt := 9) C dX12_must_1 (by decide) (fun c1 => ?_) (fun c1 => ?_)
  · have e := iN c1 e
    obtain rfl := sp1 e
    exact a_widen (Nat.le_of_ble_eq_true rfl) (Nat.le_of_ble_eq_true rfl) (a_sub [0, 1] rfl jj3)
  · have e := ip c1 e
    refine a_aload_n C dX12_must_4 rfl 0 rfl ?_
    refine a_iconst (v := (1 : Int32)) C dX12_must_5 (by decide) ?_
    obtain ⟨u11, ec10, e⟩ := bA_some e
    obtain ⟨fs9, eo8⟩ := isC_some ec10
    obtain ⟨h5, e6, e⟩ := bA_some e
    refine a_callV (as := [.int (1 : Int32)]) (rest := []) C m_X12_bad im_X12_bad cb11 se_X12_X12_bad_X12_bad ml_X12_111 rfl (Nat.le_of_ble_eq_true rfl) (Nat.le_of_ble_eq_true rfl) (Nat.le_of_ble_eq_true rfl) (Nat.le_of_ble_eq_true rfl) (Nat.le_of_ble_eq_true rfl) dX12_must_6 eo8 (k_X12_bad e6) rfl ?_
    show AW G lo 0 0 9 [(0, .ref (lo + x0)), (1, .int x1)] [] h5
    obtain rfl := sp1 e
    exact a_widen (Nat.le_of_ble_eq_true rfl) (Nat.le_of_ble_eq_true rfl) (a_sub [0, 1] rfl jj3)

set_option maxRecDepth 100000 in
def f_X12_isLetter (h : Hp) (x0 : Nat) (x1 : Int32) : Option (Int32 × Hp) := bA (gI h x0 11 16) fun g2 => bA (if g2 = 0 then bA (gI h x0 11 14) fun g8 => (if g8 = (2 : Int32) then bA (gI h x0 11 15) fun g11 => (if g11 = x1 then some (1 : Int32) else some (0 : Int32)) else some (0 : Int32)) else some (0 : Int32)) fun j4 => bA (bz j4) fun z13 => some (j4, h)

theorem m_X12_isLetter : MI yX12_isLetter cX12_isLetter 2 (some .boolean) 1 := ⟨co_X12_isLetter, ini_X12, by decide, by decide +kernel⟩
set_option maxRecDepth 100000 in
set_option maxHeartbeats 4000000 in
theorem k_X12_isLetter {lo : Nat} {h : Hp} {x0 : Nat} {x1 : Int32} {r : Int32} {h' : Hp} (e : f_X12_isLetter h x0 x1 = some (r, h')) : ∀ l d, AC l d lo yX12_isLetter cX12_isLetter 2 (some .boolean) ({ frames := 0, cells := 0, slots := 0, locals := 0 } : Room) [.ref (lo + x0), .int x1] h (some (.int r)) h' := by
  intro l d
  refine AC_of (by decide) (Nat.le_of_ble_eq_true rfl) ?_
  intro G C _ _ q
  unfold f_X12_isLetter at e
  show AW G lo 0 0 0 [(0, .ref (lo + x0)), (1, .int x1)] [] h
  refine a_aload_n C dX12_isLetter_0 rfl 0 rfl ?_
  obtain ⟨g2, e1, e⟩ := bA_some e
  refine a_getI C cb11 16 (by decide) fl_X12_84 rfl dX12_isLetter_1 e1 ?_
  obtain ⟨j4, eb6, e⟩ := bA_some e
  have jj5 : AW G lo 0 0 28 [(0, .ref (lo + x0)), (1, .int x1)] [.int j4] h := by
    obtain ⟨z13, e14, e⟩ := bA_some e
    obtain ⟨rfl, rfl⟩ := sp2 e
    exact a_zret C q (bz_some e14) (Nat.le_of_ble_eq_true rfl) (Nat.le_of_ble_eq_true rfl) dX12_isLetter_28
  have e := eb6
  refine a_if_ne (tgt := 27) C dX12_isLetter_4 (by decide) (fun c3 => ?_) (fun c3 => ?_)
  · have e := iN c3 e
    refine a_iconst (v := (0 : Int32)) C dX12_isLetter_27 (by decide) ?_
    obtain rfl := sp1 e
    exact a_widen (Nat.le_of_ble_eq_true rfl) (Nat.le_of_ble_eq_true rfl) (a_sub [0, 1] rfl jj5)
  · have e := ip c3 e
    refine a_aload_n C dX12_isLetter_7 rfl 0 rfl ?_
    obtain ⟨g8, e7, e⟩ := bA_some e
    refine a_getI C cb11 14 (by decide) fl_X12_108 rfl dX12_isLetter_8 e7 ?_
    refine a_iconst (v := (2 : Int32)) C dX12_isLetter_11 (by decide) ?_
    refine a_icmp_ne (tgt := 27) C dX12_isLetter_12 (by decide) (fun c9 => ?_) (fun c9 => ?_)
    · have e := iN c9 e
      refine a_iconst (v := (0 : Int32)) C dX12_isLetter_27 (by decide) ?_
      obtain rfl := sp1 e
      exact a_widen (Nat.le_of_ble_eq_true rfl) (Nat.le_of_ble_eq_true rfl) (a_sub [0, 1] rfl jj5)
    · have e := ip c9 e
      refine a_aload_n C dX12_isLetter_15 rfl 0 rfl ?_
      obtain ⟨g11, e10, e⟩ := bA_some e
      refine a_getI C cb11 15 (by decide) fl_X12_97 rfl dX12_isLetter_16 e10 ?_
      refine a_iload_n C dX12_isLetter_19 rfl 1 rfl ?_
      refine a_icmp_ne (tgt := 27) C dX12_isLetter_20 (by decide) (fun c12 => ?_) (fun c12 => ?_)
      · have e := iN c12 e
        refine a_iconst (v := (0 : Int32)) C dX12_isLetter_27 (by decide) ?_
        obtain rfl := sp1 e
        exact a_widen (Nat.le_of_ble_eq_true rfl) (Nat.le_of_ble_eq_true rfl) (a_sub [0, 1] rfl jj5)
      · have e := ip c12 e
        refine a_iconst (v := (1 : Int32)) C dX12_isLetter_23 (by decide) ?_
        refine a_goto (tgt := 28) C dX12_isLetter_24 (by decide) ?_
        obtain rfl := sp1 e
        exact a_widen (Nat.le_of_ble_eq_true rfl) (Nat.le_of_ble_eq_true rfl) (a_sub [0, 1] rfl jj5)

set_option maxRecDepth 100000 in
def f_X12_number (h : Hp) (x0 : Nat) (x1 : Int32) (x2 : Int32) : Option (Int32 × Hp) := bA (gI h x0 11 16) fun g2 => bA (if g2 = 0 then bA (gI h x0 11 14) fun g8 => (if g8 = (3 : Int32) then some h else bA (isC h x0 11) fun u16 => bA (f_X12_bad h x0 (1 : Int32)) fun h10 => some h10) else some h) fun h4 => bA (gI h4 x0 11 16) fun g20 => bA (if g20 = 0 then bA (gI h4 x0 11 15) fun g26 => b2 (f_X12_in h4 g26.toInt64 x1.toInt64 x2.toInt64) fun r29 h27 => (if r29 = 0 then bA (isC h27 x0 11) fun u42 => bA (f_X12_bad h27 x0 (2 : Int32)) fun h36 => some h36 else some h27) else some h4) fun h22 => bA (gI h22 x0 11 16) fun g46 => bA (if g46 = 0 then bA (gI h22 x0 11 15) fun g52 => some g52 else some x1) fun j48 => bA (isC h22 x0 11) fun u59 => bA (f_X12_must h22 x0 (1 : Int32)) fun h53 => some (j48, h53)

theorem m_X12_number : MI yX12_number cX12_number 4 (some .int) 2 := ⟨co_X12_number, ini_X12, by decide, by decide +kernel⟩
set_option maxRecDepth 100000 in
set_option maxHeartbeats 4000000 in
theorem k_X12_number {lo : Nat} {h : Hp} {x0 : Nat} {x1 : Int32} {x2 : Int32} {r : Int32} {h' : Hp} (e : f_X12_number h x0 x1 x2 = some (r, h')) : ∀ l d, AC l d lo yX12_number cX12_number 4 (some .int) ({ frames := 3, cells := 0, slots := 0, locals := 66 } : Room) [.ref (lo + x0), .int x1, .int x2] h (some (.int r)) h' := by
  intro l d
  refine AC_of (by decide) (Nat.le_of_ble_eq_true rfl) ?_
  intro G C _ _ q
  unfold f_X12_number at e
  show AW G lo 0 0 0 [(0, .ref (lo + x0)), (1, .int x1), (2, .int x2)] [] h
  refine a_aload_n C dX12_number_0 rfl 0 rfl ?_
  obtain ⟨g2, e1, e⟩ := bA_some e
  refine a_getI C cb11 16 (by decide) fl_X12_84 rfl dX12_number_1 e1 ?_
  obtain ⟨h4, eb6, e⟩ := bA_some e
  have jj5 : AW G lo 0 0 20 [(0, .ref (lo + x0)), (1, .int x1), (2, .int x2)] [] h4 := by
    refine a_aload_n C dX12_number_20 rfl 0 rfl ?_
    obtain ⟨g20, e19, e⟩ := bA_some e
    refine a_getI C cb11 16 (by decide) fl_X12_84 rfl dX12_number_21 e19 ?_
    obtain ⟨h22, eb24, e⟩ := bA_some e
    have jj23 : AW G lo 0 0 47 [(0, .ref (lo + x0)), (1, .int x1), (2, .int x2)] [] h22 := by
      refine a_aload_n C dX12_number_47 rfl 0 rfl ?_
      obtain ⟨g46, e45, e⟩ := bA_some e
      refine a_getI C cb11 16 (by decide) fl_X12_84 rfl dX12_number_48 e45 ?_
      obtain ⟨j48, eb50, e⟩ := bA_some e
      have jj49 : AW G lo 0 0 62 [(0, .ref (lo + x0)), (1, .int x1), (2, .int x2)] [.int j48] h22 := by
        refine a_istore_n (lv2 := [(3, .int j48), (0, .ref (lo + x0)), (1, .int x1), (2, .int x2)]) C dX12_number_62 rfl (by decide) rfl ?_
        refine a_aload_n C dX12_number_63 rfl 1 rfl ?_
        refine a_iconst (v := (1 : Int32)) C dX12_number_64 (by decide) ?_
        obtain ⟨u59, ec58, e⟩ := bA_some e
        obtain ⟨fs57, eo56⟩ := isC_some ec58
        obtain ⟨h53, e54, e⟩ := bA_some e
        refine a_callV (as := [.int (1 : Int32)]) (rest := []) C m_X12_must im_X12_must cb11 se_X12_X12_must_X12_must ml_X12_118 rfl (Nat.le_of_ble_eq_true rfl) (Nat.le_of_ble_eq_true rfl) (Nat.le_of_ble_eq_true rfl) (Nat.le_of_ble_eq_true rfl) (Nat.le_of_ble_eq_true rfl) dX12_number_65 eo56 (k_X12_must e54) rfl ?_
        show AW G lo 0 0 68 [(3, .int j48), (0, .ref (lo + x0)), (1, .int x1), (2, .int x2)] [] h53
        refine a_iload_n C dX12_number_68 rfl 0 rfl ?_
        obtain ⟨rfl, rfl⟩ := sp2 e
        exact a_iret C q (Nat.le_of_ble_eq_true rfl) (Nat.le_of_ble_eq_true rfl) dX12_number_69
      have e := eb50
      refine a_if_ne (tgt := 61) C dX12_number_51 (by decide) (fun c47 => ?_) (fun c47 => ?_)
      · have e := iN c47 e
        refine a_iload_n C dX12_number_61 rfl 1 rfl ?_
        obtain rfl := sp1 e
        exact a_widen (Nat.le_of_ble_eq_true rfl) (Nat.le_of_ble_eq_true rfl) (a_sub [0, 1, 2] rfl jj49)
      · have e := ip c47 e
        refine a_aload_n C dX12_number_54 rfl 0 rfl ?_
        obtain ⟨g52, e51, e⟩ := bA_some e
        refine a_getI C cb11 15 (by decide) fl_X12_97 rfl dX12_number_55 e51 ?_
        refine a_goto (tgt := 62) C dX12_number_58 (by decide) ?_
        obtain rfl := sp1 e
        exact a_widen (Nat.le_of_ble_eq_true rfl) (Nat.le_of_ble_eq_true rfl) (a_sub [0, 1, 2] rfl jj49)
    have e := eb24
    refine a_if_ne (tgt := 47) C dX12_number_24 (by decide) (fun c21 => ?_) (fun c21 => ?_)
    · have e := iN c21 e
      obtain rfl := sp1 e
      exact a_widen (Nat.le_of_ble_eq_true rfl) (Nat.le_of_ble_eq_true rfl) (a_sub [0, 1, 2] rfl jj23)
    · have e := ip c21 e
      refine a_aload_n C dX12_number_27 rfl 0 rfl ?_
      obtain ⟨g26, e25, e⟩ := bA_some e
      refine a_getI C cb11 15 (by decide) fl_X12_97 rfl dX12_number_28 e25 ?_
      refine a_i2l C dX12_number_31 ?_
      refine a_iload_n C dX12_number_32 rfl 1 rfl ?_
      refine a_i2l C dX12_number_33 ?_
      refine a_iload_n C dX12_number_34 rfl 2 rfl ?_
      refine a_i2l C dX12_number_35 ?_
      obtain ⟨r29, h27, e28, e⟩ := b2_some e
      refine a_callS (as := [.long g26.toInt64, .long x1.toInt64, .long x2.toInt64]) (rest := []) C m_X12_in sm_X12_in ml_X12_63 rfl (Nat.le_of_ble_eq_true rfl) (Nat.le_of_ble_eq_true rfl) (Nat.le_of_ble_eq_true rfl) (Nat.le_of_ble_eq_true rfl) (Nat.le_of_ble_eq_true rfl) dX12_number_36 (k_X12_in e28) rfl ?_
      show AW G lo 0 0 39 [(0, .ref (lo + x0)), (1, .int x1), (2, .int x2)] [.int r29] h27
      refine a_if_ne (tgt := 47) C dX12_number_39 (by decide) (fun c35 => ?_) (fun c35 => ?_)
      · have e := iN c35 e
        obtain rfl := sp1 e
        exact a_widen (Nat.le_of_ble_eq_true rfl) (Nat.le_of_ble_eq_true rfl) (a_sub [0, 1, 2] rfl jj23)
      · have e := ip c35 e
        refine a_aload_n C dX12_number_42 rfl 0 rfl ?_
        refine a_iconst (v := (2 : Int32)) C dX12_number_43 (by decide) ?_
        obtain ⟨u42, ec41, e⟩ := bA_some e
        obtain ⟨fs40, eo39⟩ := isC_some ec41
        obtain ⟨h36, e37, e⟩ := bA_some e
        refine a_callV (as := [.int (2 : Int32)]) (rest := []) C m_X12_bad im_X12_bad cb11 se_X12_X12_bad_X12_bad ml_X12_111 rfl (Nat.le_of_ble_eq_true rfl) (Nat.le_of_ble_eq_true rfl) (Nat.le_of_ble_eq_true rfl) (Nat.le_of_ble_eq_true rfl) (Nat.le_of_ble_eq_true rfl) dX12_number_44 eo39 (k_X12_bad e37) rfl ?_
        show AW G lo 0 0 47 [(0, .ref (lo + x0)), (1, .int x1), (2, .int x2)] [] h36
        obtain rfl := sp1 e
        exact a_widen (Nat.le_of_ble_eq_true rfl) (Nat.le_of_ble_eq_true rfl) (a_sub [0, 1, 2] rfl jj23)
  have e := eb6
  refine a_if_ne (tgt := 20) C dX12_number_4 (by decide) (fun c3 => ?_) (fun c3 => ?_)
  · have e := iN c3 e
    obtain rfl := sp1 e
    exact a_widen (Nat.le_of_ble_eq_true rfl) (Nat.le_of_ble_eq_true rfl) (a_sub [0, 1, 2] rfl jj5)
  · have e := ip c3 e
    refine a_aload_n C dX12_number_7 rfl 0 rfl ?_
    obtain ⟨g8, e7, e⟩ := bA_some e
    refine a_getI C cb11 14 (by decide) fl_X12_108 rfl dX12_number_8 e7 ?_
    refine a_iconst (v := (3 : Int32)) C dX12_number_11 (by decide) ?_
    refine a_icmp_eq (tgt := 20) C dX12_number_12 (by decide) (fun c9 => ?_) (fun c9 => ?_)
    · have e := ip c9 e
      obtain rfl := sp1 e
      exact a_widen (Nat.le_of_ble_eq_true rfl) (Nat.le_of_ble_eq_true rfl) (a_sub [0, 1, 2] rfl jj5)
    · have e := iN c9 e
      refine a_aload_n C dX12_number_15 rfl 0 rfl ?_
      refine a_iconst (v := (1 : Int32)) C dX12_number_16 (by decide) ?_
      obtain ⟨u16, ec15, e⟩ := bA_some e
      obtain ⟨fs14, eo13⟩ := isC_some ec15
      obtain ⟨h10, e11, e⟩ := bA_some e
      refine a_callV (as := [.int (1 : Int32)]) (rest := []) C m_X12_bad im_X12_bad cb11 se_X12_X12_bad_X12_bad ml_X12_111 rfl (Nat.le_of_ble_eq_true rfl) (Nat.le_of_ble_eq_true rfl) (Nat.le_of_ble_eq_true rfl) (Nat.le_of_ble_eq_true rfl) (Nat.le_of_ble_eq_true rfl) dX12_number_17 eo13 (k_X12_bad e11) rfl ?_
      show AW G lo 0 0 20 [(0, .ref (lo + x0)), (1, .int x1), (2, .int x2)] [] h10
      obtain rfl := sp1 e
      exact a_widen (Nat.le_of_ble_eq_true rfl) (Nat.le_of_ble_eq_true rfl) (a_sub [0, 1, 2] rfl jj5)

set_option maxRecDepth 100000 in
def f_X12_mustSign (h : Hp) (x0 : Nat) (x1 : Int32) : Option (Hp) := bA (gI h x0 11 14) fun g2 => bA (if g2 = (4 : Int32) then bA (gI h x0 11 15) fun g8 => (if g8 = x1 then some (1 : Int32) else some (0 : Int32)) else some (0 : Int32)) fun j4 => bA (isC h x0 11) fun u16 => bA (f_X12_must h x0 j4) fun h10 => some h10

theorem m_X12_mustSign : MI yX12_mustSign cX12_mustSign 2 none 1 := ⟨co_X12_mustSign, ini_X12, by decide, by decide +kernel⟩
set_option maxRecDepth 100000 in
set_option maxHeartbeats 4000000 in
theorem k_X12_mustSign {lo : Nat} {h : Hp} {x0 : Nat} {x1 : Int32} {h' : Hp} (e : f_X12_mustSign h x0 x1 = some h') : ∀ l d, AC l d lo yX12_mustSign cX12_mustSign 2 none ({ frames := 3, cells := 0, slots := 0, locals := 66 } : Room) [.ref (lo + x0), .int x1] h none h' := by
  intro l d
  refine AC_of (by decide) (Nat.le_of_ble_eq_true rfl) ?_
  intro G C _ _ q
  unfold f_X12_mustSign at e
  show AW G lo 0 0 0 [(0, .ref (lo + x0)), (1, .int x1)] [] h
  refine a_aload_n C dX12_mustSign_0 rfl 0 rfl ?_
  refine a_aload_n C dX12_mustSign_1 rfl 0 rfl ?_
  obtain ⟨g2, e1, e⟩ := bA_some e
  refine a_getI C cb11 14 (by decide) fl_X12_108 rfl dX12_mustSign_2 e1 ?_
  refine a_iconst (v := (4 : Int32)) C dX12_mustSign_5 (by decide) ?_
  obtain ⟨j4, eb6, e⟩ := bA_some e
  have jj5 : AW G lo 0 0 22 [(0, .ref (lo + x0)), (1, .int x1)] [.int j4, .ref (lo + x0)] h := by
    obtain ⟨u16, ec15, e⟩ := bA_some e
    obtain ⟨fs14, eo13⟩ := isC_some ec15
    obtain ⟨h10, e11, e⟩ := bA_some e
    refine a_callV (as := [.int j4]) (rest := []) C m_X12_must im_X12_must cb11 se_X12_X12_must_X12_must ml_X12_118 rfl (Nat.le_of_ble_eq_true rfl) (Nat.le_of_ble_eq_true rfl) (Nat.le_of_ble_eq_true rfl) (Nat.le_of_ble_eq_true rfl) (Nat.le_of_ble_eq_true rfl) dX12_mustSign_22 eo13 (k_X12_must e11) rfl ?_
    show AW G lo 0 0 25 [(0, .ref (lo + x0)), (1, .int x1)] [] h10
    obtain rfl := sp1 e
    exact a_vret C q (Nat.le_of_ble_eq_true rfl) (Nat.le_of_ble_eq_true rfl) dX12_mustSign_25
  have e := eb6
  refine a_icmp_ne (tgt := 21) C dX12_mustSign_6 (by decide) (fun c3 => ?_) (fun c3 => ?_)
  · have e := iN c3 e
    refine a_iconst (v := (0 : Int32)) C dX12_mustSign_21 (by decide) ?_
    obtain rfl := sp1 e
    exact a_widen (Nat.le_of_ble_eq_true rfl) (Nat.le_of_ble_eq_true rfl) (a_sub [0, 1] rfl jj5)
  · have e := ip c3 e
    refine a_aload_n C dX12_mustSign_9 rfl 0 rfl ?_
    obtain ⟨g8, e7, e⟩ := bA_some e
    refine a_getI C cb11 15 (by decide) fl_X12_97 rfl dX12_mustSign_10 e7 ?_
    refine a_iload_n C dX12_mustSign_13 rfl 1 rfl ?_
    refine a_icmp_ne (tgt := 21) C dX12_mustSign_14 (by decide) (fun c9 => ?_) (fun c9 => ?_)
    · have e := iN c9 e
      refine a_iconst (v := (0 : Int32)) C dX12_mustSign_21 (by decide) ?_
      obtain rfl := sp1 e
      exact a_widen (Nat.le_of_ble_eq_true rfl) (Nat.le_of_ble_eq_true rfl) (a_sub [0, 1] rfl jj5)
    · have e := ip c9 e
      refine a_iconst (v := (1 : Int32)) C dX12_mustSign_17 (by decide) ?_
      refine a_goto (tgt := 22) C dX12_mustSign_18 (by decide) ?_
      obtain rfl := sp1 e
      exact a_widen (Nat.le_of_ble_eq_true rfl) (Nat.le_of_ble_eq_true rfl) (a_sub [0, 1] rfl jj5)

set_option maxRecDepth 100000 in
def f_X12_begin (h : Hp) (x0 : Nat) : Option (Hp) := bA (pV h x0 11 12 (.inl (0 : Int32))) fun h2 => bA (pV h2 x0 11 16 (.inl (0 : Int32))) fun h4 => bA (isC h4 x0 11) fun u11 => bA (f_X12_nextToken h4 x0 ) fun h5 => some h5

theorem m_X12_begin : MI yX12_begin cX12_begin 1 none 0 := ⟨co_X12_begin, ini_X12, by decide, by decide +kernel⟩
set_option maxRecDepth 100000 in
set_option maxHeartbeats 4000000 in
theorem k_X12_begin {lo : Nat} {h : Hp} {x0 : Nat} {h' : Hp} (e : f_X12_begin h x0 = some h') : ∀ l d, AC l d lo yX12_begin cX12_begin 1 none ({ frames := 2, cells := 0, slots := 0, locals := 45 } : Room) [.ref (lo + x0)] h none h' := by
  intro l d
  refine AC_of (by decide) (Nat.le_of_ble_eq_true rfl) ?_
  intro G C _ _ q
  unfold f_X12_begin at e
  show AW G lo 0 0 0 [(0, .ref (lo + x0))] [] h
  refine a_aload_n C dX12_begin_0 rfl 0 rfl ?_
  refine a_iconst (v := (0 : Int32)) C dX12_begin_1 (by decide) ?_
  obtain ⟨h2, e1, e⟩ := bA_some e
  refine a_putI C cb11 12 (by decide) fl_X12_93 rfl (by decide +kernel) dX12_begin_2 e1 ?_
  refine a_aload_n C dX12_begin_5 rfl 0 rfl ?_
  refine a_iconst (v := (0 : Int32)) C dX12_begin_6 (by decide) ?_
  obtain ⟨h4, e3, e⟩ := bA_some e
  refine a_putI C cb11 16 (by decide) fl_X12_84 rfl (by decide +kernel) dX12_begin_7 e3 ?_
  refine a_aload_n C dX12_begin_10 rfl 0 rfl ?_
  obtain ⟨u11, ec10, e⟩ := bA_some e
  obtain ⟨fs9, eo8⟩ := isC_some ec10
  obtain ⟨h5, e6, e⟩ := bA_some e
  refine a_callV (as := []) (rest := []) C m_X12_nextToken im_X12_nextToken cb11 se_X12_X12_nextToken_X12_nextToken ml_X12_115 rfl (Nat.le_of_ble_eq_true rfl) (Nat.le_of_ble_eq_true rfl) (Nat.le_of_ble_eq_true rfl) (Nat.le_of_ble_eq_true rfl) (Nat.le_of_ble_eq_true rfl) dX12_begin_11 eo8 (k_X12_nextToken e6) rfl ?_
  show AW G lo 0 0 14 [(0, .ref (lo + x0))] [] h5
  obtain rfl := sp1 e
  exact a_vret C q (Nat.le_of_ble_eq_true rfl) (Nat.le_of_ble_eq_true rfl) dX12_begin_14

set_option maxRecDepth 100000 in
def f_X12_failed (h : Hp) (x0 : Nat) : Option (Int32 × Hp) := bA (gI h x0 11 16) fun g2 => bA (if g2 = 0 then bA (gI h x0 11 14) fun g8 => (if g8 = (1 : Int32) then some h else bA (isC h x0 11) fun u16 => bA (f_X12_bad h x0 (1 : Int32)) fun h10 => some h10) else some h) fun h4 => bA (pV h4 x0 11 11 (.inl (0 : Int32))) fun h20 => bA (gI h20 x0 11 16) fun g22 => bA (if g22 ≤ 0 then bA (gI h20 x0 11 18) fun g28 => some g28 else bA (gI h20 x0 11 16) fun g30 => some g30) fun j24 => bA (pV h20 x0 11 18 (.inl j24)) fun h32 => bA (gI h32 x0 11 16) fun g34 => bA (if g34 ≤ 0 then some (0 : Int32) else some (1 : Int32)) fun j36 => bA (bz j36) fun z39 => some (j36, h32)

theorem m_X12_failed : MI yX12_failed cX12_failed 1 (some .boolean) 0 := ⟨co_X12_failed, ini_X12, by decide, by decide +kernel⟩
set_option maxRecDepth 100000 in
set_option maxHeartbeats 4000000 in
theorem k_X12_failed {lo : Nat} {h : Hp} {x0 : Nat} {r : Int32} {h' : Hp} (e : f_X12_failed h x0 = some (r, h')) : ∀ l d, AC l d lo yX12_failed cX12_failed 1 (some .boolean) ({ frames := 1, cells := 0, slots := 0, locals := 21 } : Room) [.ref (lo + x0)] h (some (.int r)) h' := by
  intro l d
  refine AC_of (by decide) (Nat.le_of_ble_eq_true rfl) ?_
  intro G C _ _ q
  unfold f_X12_failed at e
  show AW G lo 0 0 0 [(0, .ref (lo + x0))] [] h
  refine a_aload_n C dX12_failed_0 rfl 0 rfl ?_
  obtain ⟨g2, e1, e⟩ := bA_some e
  refine a_getI C cb11 16 (by decide) fl_X12_84 rfl dX12_failed_1 e1 ?_
  obtain ⟨h4, eb6, e⟩ := bA_some e
  have jj5 : AW G lo 0 0 20 [(0, .ref (lo + x0))] [] h4 := by
    refine a_aload_n C dX12_failed_20 rfl 0 rfl ?_
    refine a_iconst (v := (0 : Int32)) C dX12_failed_21 (by decide) ?_
    obtain ⟨h20, e19, e⟩ := bA_some e
    refine a_putI C cb11 11 (by decide) fl_X12_80 rfl (by decide +kernel) dX12_failed_22 e19 ?_
    refine a_aload_n C dX12_failed_25 rfl 0 rfl ?_
    refine a_aload_n C dX12_failed_26 rfl 0 rfl ?_
    obtain ⟨g22, e21, e⟩ := bA_some e
    refine a_getI C cb11 16 (by decide) fl_X12_84 rfl dX12_failed_27 e21 ?_
    obtain ⟨j24, eb26, e⟩ := bA_some e
    have jj25 : AW G lo 0 0 44 [(0, .ref (lo + x0))] [.int j24, .ref (lo + x0)] h20 := by
      obtain ⟨h32, e31, e⟩ := bA_some e
      refine a_putI C cb11 18 (by decide) fl_X12_122 rfl (by decide +kernel) dX12_failed_44 e31 ?_
      refine a_aload_n C dX12_failed_47 rfl 0 rfl ?_
      obtain ⟨g34, e33, e⟩ := bA_some e
      refine a_getI C cb11 16 (by decide) fl_X12_84 rfl dX12_failed_48 e33 ?_
      obtain ⟨j36, eb38, e⟩ := bA_some e
      have jj37 : AW G lo 0 0 59 [(0, .ref (lo + x0))] [.int j36] h32 := by
        obtain ⟨z39, e40, e⟩ := bA_some e
        obtain ⟨rfl, rfl⟩ := sp2 e
        exact a_zret C q (bz_some e40) (Nat.le_of_ble_eq_true rfl) (Nat.le_of_ble_eq_true rfl) dX12_failed_59
      have e := eb38
      refine a_if_le (tgt := 58) C dX12_failed_51 (by decide) (fun c35 => ?_) (fun c35 => ?_)
      · have e := ip c35 e
        refine a_iconst (v := (0 : Int32)) C dX12_failed_58 (by decide) ?_
        obtain rfl := sp1 e
        exact a_widen (Nat.le_of_ble_eq_true rfl) (Nat.le_of_ble_eq_true rfl) (a_sub [0] rfl jj37)
      · have e := iN c35 e
        refine a_iconst (v := (1 : Int32)) C dX12_failed_54 (by decide) ?_
        refine a_goto (tgt := 59) C dX12_failed_55 (by decide) ?_
        obtain rfl := sp1 e
        exact a_widen (Nat.le_of_ble_eq_true rfl) (Nat.le_of_ble_eq_true rfl) (a_sub [0] rfl jj37)
    have e := eb26
    refine a_if_le (tgt := 40) C dX12_failed_30 (by decide) (fun c23 => ?_) (fun c23 => ?_)
    · have e := ip c23 e
      refine a_aload_n C dX12_failed_40 rfl 0 rfl ?_
      obtain ⟨g28, e27, e⟩ := bA_some e
      refine a_getI C cb11 18 (by decide) fl_X12_122 rfl dX12_failed_41 e27 ?_
      obtain rfl := sp1 e
      exact a_widen (Nat.le_of_ble_eq_true rfl) (Nat.le_of_ble_eq_true rfl) (a_sub [0] rfl jj25)
    · have e := iN c23 e
      refine a_aload_n C dX12_failed_33 rfl 0 rfl ?_
      obtain ⟨g30, e29, e⟩ := bA_some e
      refine a_getI C cb11 16 (by decide) fl_X12_84 rfl dX12_failed_34 e29 ?_
      refine a_goto (tgt := 44) C dX12_failed_37 (by decide) ?_
      obtain rfl := sp1 e
      exact a_widen (Nat.le_of_ble_eq_true rfl) (Nat.le_of_ble_eq_true rfl) (a_sub [0] rfl jj25)
  have e := eb6
  refine a_if_ne (tgt := 20) C dX12_failed_4 (by decide) (fun c3 => ?_) (fun c3 => ?_)
  · have e := iN c3 e
    obtain rfl := sp1 e
    exact a_widen (Nat.le_of_ble_eq_true rfl) (Nat.le_of_ble_eq_true rfl) (a_sub [0] rfl jj5)
  · have e := ip c3 e
    refine a_aload_n C dX12_failed_7 rfl 0 rfl ?_
    obtain ⟨g8, e7, e⟩ := bA_some e
    refine a_getI C cb11 14 (by decide) fl_X12_108 rfl dX12_failed_8 e7 ?_
    refine a_iconst (v := (1 : Int32)) C dX12_failed_11 (by decide) ?_
    refine a_icmp_eq (tgt := 20) C dX12_failed_12 (by decide) (fun c9 => ?_) (fun c9 => ?_)
    · have e := ip c9 e
      obtain rfl := sp1 e
      exact a_widen (Nat.le_of_ble_eq_true rfl) (Nat.le_of_ble_eq_true rfl) (a_sub [0] rfl jj5)
    · have e := iN c9 e
      refine a_aload_n C dX12_failed_15 rfl 0 rfl ?_
      refine a_iconst (v := (1 : Int32)) C dX12_failed_16 (by decide) ?_
      obtain ⟨u16, ec15, e⟩ := bA_some e
      obtain ⟨fs14, eo13⟩ := isC_some ec15
      obtain ⟨h10, e11, e⟩ := bA_some e
      refine a_callV (as := [.int (1 : Int32)]) (rest := []) C m_X12_bad im_X12_bad cb11 se_X12_X12_bad_X12_bad ml_X12_111 rfl (Nat.le_of_ble_eq_true rfl) (Nat.le_of_ble_eq_true rfl) (Nat.le_of_ble_eq_true rfl) (Nat.le_of_ble_eq_true rfl) (Nat.le_of_ble_eq_true rfl) dX12_failed_17 eo13 (k_X12_bad e11) rfl ?_
      show AW G lo 0 0 20 [(0, .ref (lo + x0))] [] h10
      obtain rfl := sp1 e
      exact a_widen (Nat.le_of_ble_eq_true rfl) (Nat.le_of_ble_eq_true rfl) (a_sub [0] rfl jj5)

set_option maxRecDepth 100000 in
def f_X12_fault (h : Hp) (x0 : Nat) : Option (Int32 × Hp) := bA (pV h x0 11 0 (.inl (0 : Int32))) fun h2 => bA (gI h2 x0 11 18) fun g4 => some (g4, h2)

theorem m_X12_fault : MI yX12_fault cX12_fault 1 (some .int) 0 := ⟨co_X12_fault, ini_X12, by decide, by decide +kernel⟩
set_option maxRecDepth 100000 in
set_option maxHeartbeats 4000000 in
theorem k_X12_fault {lo : Nat} {h : Hp} {x0 : Nat} {r : Int32} {h' : Hp} (e : f_X12_fault h x0 = some (r, h')) : ∀ l d, AC l d lo yX12_fault cX12_fault 1 (some .int) ({ frames := 0, cells := 0, slots := 0, locals := 0 } : Room) [.ref (lo + x0)] h (some (.int r)) h' := by
  intro l d
  refine AC_of (by decide) (Nat.le_of_ble_eq_true rfl) ?_
  intro G C _ _ q
  unfold f_X12_fault at e
  show AW G lo 0 0 0 [(0, .ref (lo + x0))] [] h
  refine a_aload_n C dX12_fault_0 rfl 0 rfl ?_
  refine a_iconst (v := (0 : Int32)) C dX12_fault_1 (by decide) ?_
  obtain ⟨h2, e1, e⟩ := bA_some e
  refine a_putI C cb11 0 (by decide) fl_X12_53 rfl (by decide +kernel) dX12_fault_2 e1 ?_
  refine a_aload_n C dX12_fault_5 rfl 0 rfl ?_
  obtain ⟨g4, e3, e⟩ := bA_some e
  refine a_getI C cb11 18 (by decide) fl_X12_122 rfl dX12_fault_6 e3 ?_
  obtain ⟨rfl, rfl⟩ := sp2 e
  exact a_iret C q (Nat.le_of_ble_eq_true rfl) (Nat.le_of_ble_eq_true rfl) dX12_fault_9

set_option maxRecDepth 100000 in
def f_X12_kindBy (h : Hp) (x0 : Int32) : Option (Int32 × Hp) := bA (if x0 = (108 : Int32) then some (1 : Int32) else (if x0 = (98 : Int32) then some (2 : Int32) else (if x0 = (99 : Int32) then some (3 : Int32) else (if x0 = (107 : Int32) then some (4 : Int32) else (if x0 = (115 : Int32) then some (5 : Int32) else some (-1000000 : Int32)))))) fun j2 => some (j2, h)

theorem m_X12_kindBy : MI yX12_kindBy cX12_kindBy 1 (some .int) 1 := ⟨co_X12_kindBy, ini_X12, by decide, by decide +kernel⟩
set_option maxRecDepth 100000 in
set_option maxHeartbeats 4000000 in
theorem k_X12_kindBy {lo : Nat} {h : Hp} {x0 : Int32} {r : Int32} {h' : Hp} (e : f_X12_kindBy h x0 = some (r, h')) : ∀ l d, AC l d lo yX12_kindBy cX12_kindBy 1 (some .int) ({ frames := 0, cells := 0, slots := 0, locals := 0 } : Room) [.int x0] h (some (.int r)) h' := by
  intro l d
  refine AC_of (by decide) (Nat.le_of_ble_eq_true rfl) ?_
  intro G C _ _ q
  unfold f_X12_kindBy at e
  show AW G lo 0 0 0 [(0, .int x0)] [] h
  refine a_iload_n C dX12_kindBy_0 rfl 0 rfl ?_
  refine a_bipush (v := (108 : Int32)) C dX12_kindBy_1 (by decide) ?_
  obtain ⟨j2, eb4, e⟩ := bA_some e
  have jj3 : AW G lo 0 0 52 [(0, .int x0)] [.int j2] h := by
    obtain ⟨rfl, rfl⟩ := sp2 e
    exact a_iret C q (Nat.le_of_ble_eq_true rfl) (Nat.le_of_ble_eq_true rfl) dX12_kindBy_52
  have e := eb4
  refine a_icmp_ne (tgt := 10) C dX12_kindBy_3 (by decide) (fun c1 => ?_) (fun c1 => ?_)
  · have e := iN c1 e
    refine a_iload_n C dX12_kindBy_10 rfl 0 rfl ?_
    refine a_bipush (v := (98 : Int32)) C dX12_kindBy_11 (by decide) ?_
    refine a_icmp_ne (tgt := 20) C dX12_kindBy_13 (by decide) (fun c5 => ?_) (fun c5 => ?_)
    · have e := iN c5 e
      refine a_iload_n C dX12_kindBy_20 rfl 0 rfl ?_
      refine a_bipush (v := (99 : Int32)) C dX12_kindBy_21 (by decide) ?_
      refine a_icmp_ne (tgt := 30) C dX12_kindBy_23 (by decide) (fun c6 => ?_) (fun c6 => ?_)
      · have e := iN c6 e
        refine a_iload_n C dX12_kindBy_30 rfl 0 rfl ?_
        refine a_bipush (v := (107 : Int32)) C dX12_kindBy_31 (by decide) ?_
        refine a_icmp_ne (tgt := 40) C dX12_kindBy_33 (by decide) (fun c7 => ?_) (fun c7 => ?_)
        · have e := iN c7 e
          refine a_iload_n C dX12_kindBy_40 rfl 0 rfl ?_
          refine a_bipush (v := (115 : Int32)) C dX12_kindBy_41 (by decide) ?_
          refine a_icmp_ne (tgt := 50) C dX12_kindBy_43 (by decide) (fun c8 => ?_) (fun c8 => ?_)
          · have e := iN c8 e
            refine a_ldc C ko_X12_96 dX12_kindBy_50 ?_
            obtain rfl := sp1 e
            exact a_widen (Nat.le_of_ble_eq_true rfl) (Nat.le_of_ble_eq_true rfl) (a_sub [0] rfl jj3)
          · have e := ip c8 e
            refine a_iconst (v := (5 : Int32)) C dX12_kindBy_46 (by decide) ?_
            refine a_goto (tgt := 52) C dX12_kindBy_47 (by decide) ?_
            obtain rfl := sp1 e
            exact a_widen (Nat.le_of_ble_eq_true rfl) (Nat.le_of_ble_eq_true rfl) (a_sub [0] rfl jj3)
        · have e := ip c7 e
          refine a_iconst (v := (4 : Int32)) C dX12_kindBy_36 (by decide) ?_
          refine a_goto (tgt := 52) C dX12_kindBy_37 (by decide) ?_
          obtain rfl := sp1 e
          exact a_widen (Nat.le_of_ble_eq_true rfl) (Nat.le_of_ble_eq_true rfl) (a_sub [0] rfl jj3)
      · have e := ip c6 e
        refine a_iconst (v := (3 : Int32)) C dX12_kindBy_26 (by decide) ?_
        refine a_goto (tgt := 52) C dX12_kindBy_27 (by decide) ?_
        obtain rfl := sp1 e
        exact a_widen (Nat.le_of_ble_eq_true rfl) (Nat.le_of_ble_eq_true rfl) (a_sub [0] rfl jj3)
    · have e := ip c5 e
      refine a_iconst (v := (2 : Int32)) C dX12_kindBy_16 (by decide) ?_
      refine a_goto (tgt := 52) C dX12_kindBy_17 (by decide) ?_
      obtain rfl := sp1 e
      exact a_widen (Nat.le_of_ble_eq_true rfl) (Nat.le_of_ble_eq_true rfl) (a_sub [0] rfl jj3)
  · have e := ip c1 e
    refine a_iconst (v := (1 : Int32)) C dX12_kindBy_6 (by decide) ?_
    refine a_goto (tgt := 52) C dX12_kindBy_7 (by decide) ?_
    obtain rfl := sp1 e
    exact a_widen (Nat.le_of_ble_eq_true rfl) (Nat.le_of_ble_eq_true rfl) (a_sub [0] rfl jj3)

set_option maxRecDepth 100000 in
def f_X12_isSort (h : Hp) (x0 : Nat) : Option (Int32 × Hp) := bA (gI h x0 11 16) fun g2 => b2 (if g2 = 0 then bA (gI h x0 11 14) fun g9 => (if g9 = (2 : Int32) then bA (gI h x0 11 15) fun g12 => b2 (f_X12_kindBy h g12) fun r15 h13 => (if r15 = (-1000000 : Int32) then some ((0 : Int32), h13) else some ((1 : Int32), h13)) else some ((0 : Int32), h)) else some ((0 : Int32), h)) fun j4 h5 => bA (bz j4) fun z22 => some (j4, h5)

theorem m_X12_isSort : MI yX12_isSort cX12_isSort 1 (some .boolean) 0 := ⟨co_X12_isSort, ini_X12, by decide, by decide +kernel⟩
set_option maxRecDepth 100000 in
set_option maxHeartbeats 4000000 in
theorem k_X12_isSort {lo : Nat} {h : Hp} {x0 : Nat} {r : Int32} {h' : Hp} (e : f_X12_isSort h x0 = some (r, h')) : ∀ l d, AC l d lo yX12_isSort cX12_isSort 1 (some .boolean) ({ frames := 1, cells := 0, slots := 0, locals := 20 } : Room) [.ref (lo + x0)] h (some (.int r)) h' := by
  intro l d
  refine AC_of (by decide) (Nat.le_of_ble_eq_true rfl) ?_
  intro G C _ _ q
  unfold f_X12_isSort at e
  show AW G lo 0 0 0 [(0, .ref (lo + x0))] [] h
  refine a_aload_n C dX12_isSort_0 rfl 0 rfl ?_
  obtain ⟨g2, e1, e⟩ := bA_some e
  refine a_getI C cb11 16 (by decide) fl_X12_84 rfl dX12_isSort_1 e1 ?_
  obtain ⟨j4, h5, eb7, e⟩ := b2_some e
  have jj6 : AW G lo 0 0 32 [(0, .ref (lo + x0))] [.int j4] h5 := by
    obtain ⟨z22, e23, e⟩ := bA_some e
    obtain ⟨rfl, rfl⟩ := sp2 e
    exact a_zret C q (bz_some e23) (Nat.le_of_ble_eq_true rfl) (Nat.le_of_ble_eq_true rfl) dX12_isSort_32
  have e := eb7
  refine a_if_ne (tgt := 31) C dX12_isSort_4 (by decide) (fun c3 => ?_) (fun c3 => ?_)
  · have e := iN c3 e
    refine a_iconst (v := (0 : Int32)) C dX12_isSort_31 (by decide) ?_
    obtain ⟨rfl, rfl⟩ := sp2 e
    exact a_widen (Nat.le_of_ble_eq_true rfl) (Nat.le_of_ble_eq_true rfl) (a_sub [0] rfl jj6)
  · have e := ip c3 e
    refine a_aload_n C dX12_isSort_7 rfl 0 rfl ?_
    obtain ⟨g9, e8, e⟩ := bA_some e
    refine a_getI C cb11 14 (by decide) fl_X12_108 rfl dX12_isSort_8 e8 ?_
    refine a_iconst (v := (2 : Int32)) C dX12_isSort_11 (by decide) ?_
    refine a_icmp_ne (tgt := 31) C dX12_isSort_12 (by decide) (fun c10 => ?_) (fun c10 => ?_)
    · have e := iN c10 e
      refine a_iconst (v := (0 : Int32)) C dX12_isSort_31 (by decide) ?_
      obtain ⟨rfl, rfl⟩ := sp2 e
      exact a_widen (Nat.le_of_ble_eq_true rfl) (Nat.le_of_ble_eq_true rfl) (a_sub [0] rfl jj6)
    · have e := ip c10 e
      refine a_aload_n C dX12_isSort_15 rfl 0 rfl ?_
      obtain ⟨g12, e11, e⟩ := bA_some e
      refine a_getI C cb11 15 (by decide) fl_X12_97 rfl dX12_isSort_16 e11 ?_
      obtain ⟨r15, h13, e14, e⟩ := b2_some e
      refine a_callS (as := [.int g12]) (rest := []) C m_X12_kindBy sm_X12_kindBy ml_X12_125 rfl (Nat.le_of_ble_eq_true rfl) (Nat.le_of_ble_eq_true rfl) (Nat.le_of_ble_eq_true rfl) (Nat.le_of_ble_eq_true rfl) (Nat.le_of_ble_eq_true rfl) dX12_isSort_19 (k_X12_kindBy e14) rfl ?_
      show AW G lo 0 0 22 [(0, .ref (lo + x0))] [.int r15] h13
      refine a_ldc C ko_X12_96 dX12_isSort_22 ?_
      refine a_icmp_eq (tgt := 31) C dX12_isSort_24 (by decide) (fun c21 => ?_) (fun c21 => ?_)
      · have e := ip c21 e
        refine a_iconst (v := (0 : Int32)) C dX12_isSort_31 (by decide) ?_
        obtain ⟨rfl, rfl⟩ := sp2 e
        exact a_widen (Nat.le_of_ble_eq_true rfl) (Nat.le_of_ble_eq_true rfl) (a_sub [0] rfl jj6)
      · have e := iN c21 e
        refine a_iconst (v := (1 : Int32)) C dX12_isSort_27 (by decide) ?_
        refine a_goto (tgt := 32) C dX12_isSort_28 (by decide) ?_
        obtain ⟨rfl, rfl⟩ := sp2 e
        exact a_widen (Nat.le_of_ble_eq_true rfl) (Nat.le_of_ble_eq_true rfl) (a_sub [0] rfl jj6)

set_option maxRecDepth 100000 in
def f_X12_isRoomNext (h : Hp) (x0 : Nat) : Option (Int32 × Hp) := bA (gI h x0 11 16) fun g2 => bA (if g2 = 0 then bA (gI h x0 11 14) fun g8 => (if g8 = (2 : Int32) then bA (gI h x0 11 15) fun g11 => (if g11 = (114 : Int32) then some (1 : Int32) else some (0 : Int32)) else some (0 : Int32)) else some (0 : Int32)) fun j4 => bA (bz j4) fun z13 => some (j4, h)

theorem m_X12_isRoomNext : MI yX12_isRoomNext cX12_isRoomNext 1 (some .boolean) 0 := ⟨co_X12_isRoomNext, ini_X12, by decide, by decide +kernel⟩
set_option maxRecDepth 100000 in
set_option maxHeartbeats 4000000 in
theorem k_X12_isRoomNext {lo : Nat} {h : Hp} {x0 : Nat} {r : Int32} {h' : Hp} (e : f_X12_isRoomNext h x0 = some (r, h')) : ∀ l d, AC l d lo yX12_isRoomNext cX12_isRoomNext 1 (some .boolean) ({ frames := 0, cells := 0, slots := 0, locals := 0 } : Room) [.ref (lo + x0)] h (some (.int r)) h' := by
  intro l d
  refine AC_of (by decide) (Nat.le_of_ble_eq_true rfl) ?_
  intro G C _ _ q
  unfold f_X12_isRoomNext at e
  show AW G lo 0 0 0 [(0, .ref (lo + x0))] [] h
  refine a_aload_n C dX12_isRoomNext_0 rfl 0 rfl ?_
  obtain ⟨g2, e1, e⟩ := bA_some e
  refine a_getI C cb11 16 (by decide) fl_X12_84 rfl dX12_isRoomNext_1 e1 ?_
  obtain ⟨j4, eb6, e⟩ := bA_some e
  have jj5 : AW G lo 0 0 29 [(0, .ref (lo + x0))] [.int j4] h := by
    obtain ⟨z13, e14, e⟩ := bA_some e
    obtain ⟨rfl, rfl⟩ := sp2 e
    exact a_zret C q (bz_some e14) (Nat.le_of_ble_eq_true rfl) (Nat.le_of_ble_eq_true rfl) dX12_isRoomNext_29
  have e := eb6
  refine a_if_ne (tgt := 28) C dX12_isRoomNext_4 (by decide) (fun c3 => ?_) (fun c3 => ?_)
  · have e := iN c3 e
    refine a_iconst (v := (0 : Int32)) C dX12_isRoomNext_28 (by decide) ?_
    obtain rfl := sp1 e
    exact a_widen (Nat.le_of_ble_eq_true rfl) (Nat.le_of_ble_eq_true rfl) (a_sub [0] rfl jj5)
  · have e := ip c3 e
    refine a_aload_n C dX12_isRoomNext_7 rfl 0 rfl ?_
    obtain ⟨g8, e7, e⟩ := bA_some e
    refine a_getI C cb11 14 (by decide) fl_X12_108 rfl dX12_isRoomNext_8 e7 ?_
    refine a_iconst (v := (2 : Int32)) C dX12_isRoomNext_11 (by decide) ?_
    refine a_icmp_ne (tgt := 28) C dX12_isRoomNext_12 (by decide) (fun c9 => ?_) (fun c9 => ?_)
    · have e := iN c9 e
      refine a_iconst (v := (0 : Int32)) C dX12_isRoomNext_28 (by decide) ?_
      obtain rfl := sp1 e
      exact a_widen (Nat.le_of_ble_eq_true rfl) (Nat.le_of_ble_eq_true rfl) (a_sub [0] rfl jj5)
    · have e := ip c9 e
      refine a_aload_n C dX12_isRoomNext_15 rfl 0 rfl ?_
      obtain ⟨g11, e10, e⟩ := bA_some e
      refine a_getI C cb11 15 (by decide) fl_X12_97 rfl dX12_isRoomNext_16 e10 ?_
      refine a_bipush (v := (114 : Int32)) C dX12_isRoomNext_19 (by decide) ?_
      refine a_icmp_ne (tgt := 28) C dX12_isRoomNext_21 (by decide) (fun c12 => ?_) (fun c12 => ?_)
      · have e := iN c12 e
        refine a_iconst (v := (0 : Int32)) C dX12_isRoomNext_28 (by decide) ?_
        obtain rfl := sp1 e
        exact a_widen (Nat.le_of_ble_eq_true rfl) (Nat.le_of_ble_eq_true rfl) (a_sub [0] rfl jj5)
      · have e := ip c12 e
        refine a_iconst (v := (1 : Int32)) C dX12_isRoomNext_24 (by decide) ?_
        refine a_goto (tgt := 29) C dX12_isRoomNext_25 (by decide) ?_
        obtain rfl := sp1 e
        exact a_widen (Nat.le_of_ble_eq_true rfl) (Nat.le_of_ble_eq_true rfl) (a_sub [0] rfl jj5)

set_option maxRecDepth 100000 in
def f_X12_readRoom (h : Hp) (x0 : Nat) : Option (Hp) := bA (gN h x0 11 6) fun a2 => bA (ald h a2 0 (1 : Int32)) fun v3 => bA (if v3 = (8 : Int32) then bA (isC h x0 11) fun u15 => bA (f_X12_bad h x0 (3 : Int32)) fun h9 => some h9 else some h) fun h6 => bA (isC h6 x0 11) fun u24 => bA (f_X12_must h6 x0 (1 : Int32)) fun h18 => bA (isC h18 x0 11) fun u33 => b2 (f_X12_number h18 x0 (0 : Int32) (20 : Int32)) fun r29 h27 => bA (isC h27 x0 11) fun u42 => bA (f_X12_mustSign h27 x0 (59 : Int32)) fun h36 => bA (gI h36 x0 11 16) fun g46 => bA (if g46 = 0 then bA (gN h36 x0 11 6) fun a52 => bA (gN h36 x0 11 6) fun a54 => bA (ald h36 a54 0 (1 : Int32)) fun v55 => bA (ast h36 a52 0 ((6 : Int32) + v55) r29) fun h57 => bA (gN h57 x0 11 6) fun a60 => bA (ald h57 a60 0 (1 : Int32)) fun v61 => bA (ast h57 a60 0 (1 : Int32) (v61 + (1 : Int32))) fun h63 => some h63 else some h36) fun h48 => some h48

theorem m_X12_readRoom : MI yX12_readRoom cX12_readRoom 2 none 0 := ⟨co_X12_readRoom, ini_X12, by decide, by decide +kernel⟩
set_option maxRecDepth 100000 in
set_option maxHeartbeats 4000000 in
theorem k_X12_readRoom {lo : Nat} {h : Hp} {x0 : Nat} {h' : Hp} (e : f_X12_readRoom h x0 = some h') : ∀ l d, AC l d lo yX12_readRoom cX12_readRoom 2 none ({ frames := 4, cells := 0, slots := 0, locals := 89 } : Room) [.ref (lo + x0)] h none h' := by
  intro l d
  refine AC_of (by decide) (Nat.le_of_ble_eq_true rfl) ?_
  intro G C _ _ q
  unfold f_X12_readRoom at e
  show AW G lo 0 0 0 [(0, .ref (lo + x0))] [] h
  refine a_aload_n C dX12_readRoom_0 rfl 0 rfl ?_
  obtain ⟨a2, e1, e⟩ := bA_some e
  refine a_getN C cb11 6 (by decide) fl_X12_22 rfl dX12_readRoom_1 e1 ?_
  refine a_iconst (v := (1 : Int32)) C dX12_readRoom_4 (by decide) ?_
  obtain ⟨v3, e4, e⟩ := bA_some e
  refine a_iald C dX12_readRoom_5 e4 ?_
  refine a_bipush (v := (8 : Int32)) C dX12_readRoom_6 (by decide) ?_
  obtain ⟨h6, eb8, e⟩ := bA_some e
  have jj7 : AW G lo 0 0 16 [(0, .ref (lo + x0))] [] h6 := by
    refine a_aload_n C dX12_readRoom_16 rfl 0 rfl ?_
    refine a_iconst (v := (1 : Int32)) C dX12_readRoom_17 (by decide) ?_
    obtain ⟨u24, ec23, e⟩ := bA_some e
    obtain ⟨fs22, eo21⟩ := isC_some ec23
    obtain ⟨h18, e19, e⟩ := bA_some e
    refine a_callV (as := [.int (1 : Int32)]) (rest := []) C m_X12_must im_X12_must cb11 se_X12_X12_must_X12_must ml_X12_118 rfl (Nat.le_of_ble_eq_true rfl) (Nat.le_of_ble_eq_true rfl) (Nat.le_of_ble_eq_true rfl) (Nat.le_of_ble_eq_true rfl) (Nat.le_of_ble_eq_true rfl) dX12_readRoom_18 eo21 (k_X12_must e19) rfl ?_
    show AW G lo 0 0 21 [(0, .ref (lo + x0))] [] h18
    refine a_aload_n C dX12_readRoom_21 rfl 0 rfl ?_
    refine a_iconst (v := (0 : Int32)) C dX12_readRoom_22 (by decide) ?_
    refine a_bipush (v := (20 : Int32)) C dX12_readRoom_23 (by decide) ?_
    obtain ⟨u33, ec32, e⟩ := bA_some e
    obtain ⟨fs31, eo30⟩ := isC_some ec32
    obtain ⟨r29, h27, e28, e⟩ := b2_some e
    refine a_callV (as := [.int (0 : Int32), .int (20 : Int32)]) (rest := []) C m_X12_number im_X12_number cb11 se_X12_X12_number_X12_number ml_X12_128 rfl (Nat.le_of_ble_eq_true rfl) (Nat.le_of_ble_eq_true rfl) (Nat.le_of_ble_eq_true rfl) (Nat.le_of_ble_eq_true rfl) (Nat.le_of_ble_eq_true rfl) dX12_readRoom_25 eo30 (k_X12_number e28) rfl ?_
    show AW G lo 0 0 28 [(0, .ref (lo + x0))] [.int r29] h27
    refine a_istore_n (lv2 := [(1, .int r29), (0, .ref (lo + x0))]) C dX12_readRoom_28 rfl (by decide) rfl ?_
    refine a_aload_n C dX12_readRoom_29 rfl 1 rfl ?_
    refine a_bipush (v := (59 : Int32)) C dX12_readRoom_30 (by decide) ?_
    obtain ⟨u42, ec41, e⟩ := bA_some e
    obtain ⟨fs40, eo39⟩ := isC_some ec41
    obtain ⟨h36, e37, e⟩ := bA_some e
    refine a_callV (as := [.int (59 : Int32)]) (rest := []) C m_X12_mustSign im_X12_mustSign cb11 se_X12_X12_mustSign_X12_mustSign ml_X12_132 rfl (Nat.le_of_ble_eq_true rfl) (Nat.le_of_ble_eq_true rfl) (Nat.le_of_ble_eq_true rfl) (Nat.le_of_ble_eq_true rfl) (Nat.le_of_ble_eq_true rfl) dX12_readRoom_32 eo39 (k_X12_mustSign e37) rfl ?_
    show AW G lo 0 0 35 [(1, .int r29), (0, .ref (lo + x0))] [] h36
    refine a_aload_n C dX12_readRoom_35 rfl 1 rfl ?_
    obtain ⟨g46, e45, e⟩ := bA_some e
    refine a_getI C cb11 16 (by decide) fl_X12_84 rfl dX12_readRoom_36 e45 ?_
    obtain ⟨h48, eb50, e⟩ := bA_some e
    have jj49 : AW G lo 0 0 67 [(0, .ref (lo + x0)), (1, .int r29)] [] h48 := by
      obtain rfl := sp1 e
      exact a_vret C q (Nat.le_of_ble_eq_true rfl) (Nat.le_of_ble_eq_true rfl) dX12_readRoom_67
    have e := eb50
    refine a_if_ne (tgt := 67) C dX12_readRoom_39 (by decide) (fun c47 => ?_) (fun c47 => ?_)
    · have e := iN c47 e
      obtain rfl := sp1 e
      exact a_widen (Nat.le_of_ble_eq_true rfl) (Nat.le_of_ble_eq_true rfl) (a_sub [1, 0] rfl jj49)
    · have e := ip c47 e
      refine a_aload_n C dX12_readRoom_42 rfl 1 rfl ?_
      obtain ⟨a52, e51, e⟩ := bA_some e
      refine a_getN C cb11 6 (by decide) fl_X12_22 rfl dX12_readRoom_43 e51 ?_
      refine a_bipush (v := (6 : Int32)) C dX12_readRoom_46 (by decide) ?_
      refine a_aload_n C dX12_readRoom_48 rfl 1 rfl ?_
      obtain ⟨a54, e53, e⟩ := bA_some e
      refine a_getN C cb11 6 (by decide) fl_X12_22 rfl dX12_readRoom_49 e53 ?_
      refine a_iconst (v := (1 : Int32)) C dX12_readRoom_52 (by decide) ?_
      obtain ⟨v55, e56, e⟩ := bA_some e
      refine a_iald C dX12_readRoom_53 e56 ?_
      refine a_iadd C dX12_readRoom_54 ?_
      refine a_iload_n C dX12_readRoom_55 rfl 0 rfl ?_
      obtain ⟨h57, e58, e⟩ := bA_some e
      refine a_iast C dX12_readRoom_56 e58 ?_
      refine a_aload_n C dX12_readRoom_57 rfl 1 rfl ?_
      obtain ⟨a60, e59, e⟩ := bA_some e
      refine a_getN C cb11 6 (by decide) fl_X12_22 rfl dX12_readRoom_58 e59 ?_
      refine a_iconst (v := (1 : Int32)) C dX12_readRoom_61 (by decide) ?_
      refine a_dup2 C dX12_readRoom_62 rfl rfl ?_
      obtain ⟨v61, e62, e⟩ := bA_some e
      refine a_iald C dX12_readRoom_63 e62 ?_
      refine a_iconst (v := (1 : Int32)) C dX12_readRoom_64 (by decide) ?_
      refine a_iadd C dX12_readRoom_65 ?_
      obtain ⟨h63, e64, e⟩ := bA_some e
      refine a_iast C dX12_readRoom_66 e64 ?_
      obtain rfl := sp1 e
      exact a_widen (Nat.le_of_ble_eq_true rfl) (Nat.le_of_ble_eq_true rfl) (a_sub [1, 0] rfl jj49)
  have e := eb8
  refine a_icmp_ne (tgt := 16) C dX12_readRoom_8 (by decide) (fun c5 => ?_) (fun c5 => ?_)
  · have e := iN c5 e
    obtain rfl := sp1 e
    exact a_widen (Nat.le_of_ble_eq_true rfl) (Nat.le_of_ble_eq_true rfl) (a_sub [0] rfl jj7)
  · have e := ip c5 e
    refine a_aload_n C dX12_readRoom_11 rfl 0 rfl ?_
    refine a_iconst (v := (3 : Int32)) C dX12_readRoom_12 (by decide) ?_
    obtain ⟨u15, ec14, e⟩ := bA_some e
    obtain ⟨fs13, eo12⟩ := isC_some ec14
    obtain ⟨h9, e10, e⟩ := bA_some e
    refine a_callV (as := [.int (3 : Int32)]) (rest := []) C m_X12_bad im_X12_bad cb11 se_X12_X12_bad_X12_bad ml_X12_111 rfl (Nat.le_of_ble_eq_true rfl) (Nat.le_of_ble_eq_true rfl) (Nat.le_of_ble_eq_true rfl) (Nat.le_of_ble_eq_true rfl) (Nat.le_of_ble_eq_true rfl) dX12_readRoom_13 eo12 (k_X12_bad e10) rfl ?_
    show AW G lo 0 0 16 [(0, .ref (lo + x0))] [] h9
    obtain rfl := sp1 e
    exact a_widen (Nat.le_of_ble_eq_true rfl) (Nat.le_of_ble_eq_true rfl) (a_sub [0] rfl jj7)

set_option maxRecDepth 100000 in
def f_X12_otherRoom (h : Hp) (x0 : Nat) (x1 : Int32) : Option (Int32 × Hp) := bA (gI h x0 11 16) fun g2 => bA (if g2 = 0 then bA (gI h x0 11 14) fun g8 => (if g8 = (3 : Int32) then bA (gI h x0 11 15) fun g11 => (if g11 = x1 then bA (isC h x0 11) fun u19 => bA (f_X12_bad h x0 (2 : Int32)) fun h13 => some h13 else some h) else some h) else some h) fun h4 => bA (gN h4 x0 11 6) fun a23 => bA (ald h4 a23 0 (1 : Int32)) fun v24 => bA (isC h4 x0 11) fun u32 => b2 (f_X12_number h4 x0 (0 : Int32) (v24 - (1 : Int32))) fun r28 h26 => some (r28, h26)

theorem m_X12_otherRoom : MI yX12_otherRoom cX12_otherRoom 2 (some .int) 1 := ⟨co_X12_otherRoom, ini_X12, by decide, by decide +kernel⟩
set_option maxRecDepth 100000 in
set_option maxHeartbeats 4000000 in
theorem k_X12_otherRoom {lo : Nat} {h : Hp} {x0 : Nat} {x1 : Int32} {r : Int32} {h' : Hp} (e : f_X12_otherRoom h x0 x1 = some (r, h')) : ∀ l d, AC l d lo yX12_otherRoom cX12_otherRoom 2 (some .int) ({ frames := 4, cells := 0, slots := 0, locals := 89 } : Room) [.ref (lo + x0), .int x1] h (some (.int r)) h' := by
  intro l d
  refine AC_of (by decide) (Nat.le_of_ble_eq_true rfl) ?_
  intro G C _ _ q
  unfold f_X12_otherRoom at e
  show AW G lo 0 0 0 [(0, .ref (lo + x0)), (1, .int x1)] [] h
  refine a_aload_n C dX12_otherRoom_0 rfl 0 rfl ?_
  obtain ⟨g2, e1, e⟩ := bA_some e
  refine a_getI C cb11 16 (by decide) fl_X12_84 rfl dX12_otherRoom_1 e1 ?_
  obtain ⟨h4, eb6, e⟩ := bA_some e
  have jj5 : AW G lo 0 0 28 [(0, .ref (lo + x0)), (1, .int x1)] [] h4 := by
    refine a_aload_n C dX12_otherRoom_28 rfl 0 rfl ?_
    refine a_iconst (v := (0 : Int32)) C dX12_otherRoom_29 (by decide) ?_
    refine a_aload_n C dX12_otherRoom_30 rfl 0 rfl ?_
    obtain ⟨a23, e22, e⟩ := bA_some e
    refine a_getN C cb11 6 (by decide) fl_X12_22 rfl dX12_otherRoom_31 e22 ?_
    refine a_iconst (v := (1 : Int32)) C dX12_otherRoom_34 (by decide) ?_
    obtain ⟨v24, e25, e⟩ := bA_some e
    refine a_iald C dX12_otherRoom_35 e25 ?_
    refine a_iconst (v := (1 : Int32)) C dX12_otherRoom_36 (by decide) ?_
    refine a_isub C dX12_otherRoom_37 ?_
    obtain ⟨u32, ec31, e⟩ := bA_some e
    obtain ⟨fs30, eo29⟩ := isC_some ec31
    obtain ⟨r28, h26, e27, e⟩ := b2_some e
    refine a_callV (as := [.int (0 : Int32), .int (v24 - (1 : Int32))]) (rest := []) C m_X12_number im_X12_number cb11 se_X12_X12_number_X12_number ml_X12_128 rfl (Nat.le_of_ble_eq_true rfl) (Nat.le_of_ble_eq_true rfl) (Nat.le_of_ble_eq_true rfl) (Nat.le_of_ble_eq_true rfl) (Nat.le_of_ble_eq_true rfl) dX12_otherRoom_38 eo29 (k_X12_number e27) rfl ?_
    show AW G lo 0 0 41 [(0, .ref (lo + x0)), (1, .int x1)] [.int r28] h26
    obtain ⟨rfl, rfl⟩ := sp2 e
    exact a_iret C q (Nat.le_of_ble_eq_true rfl) (Nat.le_of_ble_eq_true rfl) dX12_otherRoom_41
  have e := eb6
  refine a_if_ne (tgt := 28) C dX12_otherRoom_4 (by decide) (fun c3 => ?_) (fun c3 => ?_)
  · have e := iN c3 e
    obtain rfl := sp1 e
    exact a_widen (Nat.le_of_ble_eq_true rfl) (Nat.le_of_ble_eq_true rfl) (a_sub [0, 1] rfl jj5)
  · have e := ip c3 e
    refine a_aload_n C dX12_otherRoom_7 rfl 0 rfl ?_
    obtain ⟨g8, e7, e⟩ := bA_some e
    refine a_getI C cb11 14 (by decide) fl_X12_108 rfl dX12_otherRoom_8 e7 ?_
    refine a_iconst (v := (3 : Int32)) C dX12_otherRoom_11 (by decide) ?_
    refine a_icmp_ne (tgt := 28) C dX12_otherRoom_12 (by decide) (fun c9 => ?_) (fun c9 => ?_)
    · have e := iN c9 e
      obtain rfl := sp1 e
      exact a_widen (Nat.le_of_ble_eq_true rfl) (Nat.le_of_ble_eq_true rfl) (a_sub [0, 1] rfl jj5)
    · have e := ip c9 e
      refine a_aload_n C dX12_otherRoom_15 rfl 0 rfl ?_
      obtain ⟨g11, e10, e⟩ := bA_some e
      refine a_getI C cb11 15 (by decide) fl_X12_97 rfl dX12_otherRoom_16 e10 ?_
      refine a_iload_n C dX12_otherRoom_19 rfl 1 rfl ?_
      refine a_icmp_ne (tgt := 28) C dX12_otherRoom_20 (by decide) (fun c12 => ?_) (fun c12 => ?_)
      · have e := iN c12 e
        obtain rfl := sp1 e
        exact a_widen (Nat.le_of_ble_eq_true rfl) (Nat.le_of_ble_eq_true rfl) (a_sub [0, 1] rfl jj5)
      · have e := ip c12 e
        refine a_aload_n C dX12_otherRoom_23 rfl 0 rfl ?_
        refine a_iconst (v := (2 : Int32)) C dX12_otherRoom_24 (by decide) ?_
        obtain ⟨u19, ec18, e⟩ := bA_some e
        obtain ⟨fs17, eo16⟩ := isC_some ec18
        obtain ⟨h13, e14, e⟩ := bA_some e
        refine a_callV (as := [.int (2 : Int32)]) (rest := []) C m_X12_bad im_X12_bad cb11 se_X12_X12_bad_X12_bad ml_X12_111 rfl (Nat.le_of_ble_eq_true rfl) (Nat.le_of_ble_eq_true rfl) (Nat.le_of_ble_eq_true rfl) (Nat.le_of_ble_eq_true rfl) (Nat.le_of_ble_eq_true rfl) dX12_otherRoom_25 eo16 (k_X12_bad e14) rfl ?_
        show AW G lo 0 0 28 [(0, .ref (lo + x0)), (1, .int x1)] [] h13
        obtain rfl := sp1 e
        exact a_widen (Nat.le_of_ble_eq_true rfl) (Nat.le_of_ble_eq_true rfl) (a_sub [0, 1] rfl jj5)

set_option maxRecDepth 100000 in
def f_X12_readDoor (h : Hp) (x0 : Nat) : Option (Hp) := bA (gI h x0 11 15) fun g2 => b2 (f_X12_kindBy h g2) fun r5 h3 => bA (gN h3 x0 11 6) fun a12 => bA (ald h3 a12 0 (0 : Int32)) fun v13 => bA (if v13 = (8 : Int32) then bA (isC h3 x0 11) fun u25 => bA (f_X12_bad h3 x0 (3 : Int32)) fun h19 => some h19 else some h3) fun h16 => bA (isC h16 x0 11) fun u34 => bA (f_X12_must h16 x0 (1 : Int32)) fun h28 => bA (gN h28 x0 11 6) fun a38 => bA (ald h28 a38 0 (1 : Int32)) fun v39 => bA (isC h28 x0 11) fun u47 => b2 (f_X12_number h28 x0 (0 : Int32) (v39 - (1 : Int32))) fun r43 h41 => bA (isC h41 x0 11) fun u56 => bA (f_X12_mustSign h41 x0 (44 : Int32)) fun h50 => bA (isC h50 x0 11) fun u65 => b2 (f_X12_otherRoom h50 x0 r43) fun r61 h59 => bA (isC h59 x0 11) fun u74 => bA (f_X12_mustSign h59 x0 (44 : Int32)) fun h68 => bA (isC h68 x0 11) fun u83 => b2 (f_X12_number h68 x0 (0 : Int32) (9 : Int32)) fun r79 h77 => bA (isC h77 x0 11) fun u92 => bA (f_X12_mustSign h77 x0 (59 : Int32)) fun h86 => bA (gI h86 x0 11 16) fun g96 => bA (if g96 = 0 then bA (gN h86 x0 11 6) fun a102 => bA (ald h86 a102 0 (0 : Int32)) fun v103 => bA (gN h86 x0 11 6) fun a106 => bA (ast h86 a106 0 ((14 : Int32) + ((5 : Int32) * v103)) r5) fun h107 => bA (gN h107 x0 11 6) fun a110 => bA (ast h107 a110 0 (((14 : Int32) + ((5 : Int32) * v103)) + (1 : Int32)) r43) fun h111 => bA (gN h111 x0 11 6) fun a114 => bA (ast h111 a114 0 (((14 : Int32) + ((5 : Int32) * v103)) + (2 : Int32)) r61) fun h115 => bA (gN h115 x0 11 6) fun a118 => bA (ast h115 a118 0 (((14 : Int32) + ((5 : Int32) * v103)) + (3 : Int32)) r79) fun h119 => bA (gN h119 x0 11 6) fun a122 => bA (ast h119 a122 0 (((14 : Int32) + ((5 : Int32) * v103)) + (4 : Int32)) (0 : Int32)) fun h123 => bA (gN h123 x0 11 6) fun a126 => bA (ald h123 a126 0 (0 : Int32)) fun v127 => bA (ast h123 a126 0 (0 : Int32) (v127 + (1 : Int32))) fun h129 => some h129 else some h86) fun h98 => some h98

theorem m_X12_readDoor : MI yX12_readDoor cX12_readDoor 6 none 0 := ⟨co_X12_readDoor, ini_X12, by decide, by decide +kernel⟩
set_option maxRecDepth 100000 in
set_option maxHeartbeats 4000000 in
theorem k_X12_readDoor {lo : Nat} {h : Hp} {x0 : Nat} {h' : Hp} (e : f_X12_readDoor h x0 = some h') : ∀ l d, AC l d lo yX12_readDoor cX12_readDoor 6 none ({ frames := 5, cells := 0, slots := 0, locals := 110 } : Room) [.ref (lo + x0)] h none h' := by
  intro l d
  refine AC_of (by decide) (Nat.le_of_ble_eq_true rfl) ?_
  intro G C _ _ q
  unfold f_X12_readDoor at e
  show AW G lo 0 0 0 [(0, .ref (lo + x0))] [] h
  refine a_aload_n C dX12_readDoor_0 rfl 0 rfl ?_
  obtain ⟨g2, e1, e⟩ := bA_some e
  refine a_getI C cb11 15 (by decide) fl_X12_97 rfl dX12_readDoor_1 e1 ?_
  obtain ⟨r5, h3, e4, e⟩ := b2_some e
  refine a_callS (as := [.int g2]) (rest := []) C m_X12_kindBy sm_X12_kindBy ml_X12_125 rfl (Nat.le_of_ble_eq_true rfl) (Nat.le_of_ble_eq_true rfl) (Nat.le_of_ble_eq_true rfl) (Nat.le_of_ble_eq_true rfl) (Nat.le_of_ble_eq_true rfl) dX12_readDoor_4 (k_X12_kindBy e4) rfl ?_
  show AW G lo 0 0 7 [(0, .ref (lo + x0))] [.int r5] h3
  refine a_istore_n (lv2 := [(1, .int r5), (0, .ref (lo + x0))]) C dX12_readDoor_7 rfl (by decide) rfl ?_
  refine a_aload_n C dX12_readDoor_8 rfl 1 rfl ?_
  obtain ⟨a12, e11, e⟩ := bA_some e
  refine a_getN C cb11 6 (by decide) fl_X12_22 rfl dX12_readDoor_9 e11 ?_
  refine a_iconst (v := (0 : Int32)) C dX12_readDoor_12 (by decide) ?_
  obtain ⟨v13, e14, e⟩ := bA_some e
  refine a_iald C dX12_readDoor_13 e14 ?_
  refine a_bipush (v := (8 : Int32)) C dX12_readDoor_14 (by decide) ?_
  obtain ⟨h16, eb18, e⟩ := bA_some e
  have jj17 : AW G lo 0 0 24 [(0, .ref (lo + x0)), (1, .int r5)] [] h16 := by
    refine a_aload_n C dX12_readDoor_24 rfl 0 rfl ?_
    refine a_iconst (v := (1 : Int32)) C dX12_readDoor_25 (by decide) ?_
    obtain ⟨u34, ec33, e⟩ := bA_some e
    obtain ⟨fs32, eo31⟩ := isC_some ec33
    obtain ⟨h28, e29, e⟩ := bA_some e
    refine a_callV (as := [.int (1 : Int32)]) (rest := []) C m_X12_must im_X12_must cb11 se_X12_X12_must_X12_must ml_X12_118 rfl (Nat.le_of_ble_eq_true rfl) (Nat.le_of_ble_eq_true rfl) (Nat.le_of_ble_eq_true rfl) (Nat.le_of_ble_eq_true rfl) (Nat.le_of_ble_eq_true rfl) dX12_readDoor_26 eo31 (k_X12_must e29) rfl ?_
    show AW G lo 0 0 29 [(0, .ref (lo + x0)), (1, .int r5)] [] h28
    refine a_aload_n C dX12_readDoor_29 rfl 0 rfl ?_
    refine a_iconst (v := (0 : Int32)) C dX12_readDoor_30 (by decide) ?_
    refine a_aload_n C dX12_readDoor_31 rfl 0 rfl ?_
    obtain ⟨a38, e37, e⟩ := bA_some e
    refine a_getN C cb11 6 (by decide) fl_X12_22 rfl dX12_readDoor_32 e37 ?_
    refine a_iconst (v := (1 : Int32)) C dX12_readDoor_35 (by decide) ?_
    obtain ⟨v39, e40, e⟩ := bA_some e
    refine a_iald C dX12_readDoor_36 e40 ?_
    refine a_iconst (v := (1 : Int32)) C dX12_readDoor_37 (by decide) ?_
    refine a_isub C dX12_readDoor_38 ?_
    obtain ⟨u47, ec46, e⟩ := bA_some e
    obtain ⟨fs45, eo44⟩ := isC_some ec46
    obtain ⟨r43, h41, e42, e⟩ := b2_some e
    refine a_callV (as := [.int (0 : Int32), .int (v39 - (1 : Int32))]) (rest := []) C m_X12_number im_X12_number cb11 se_X12_X12_number_X12_number ml_X12_128 rfl (Nat.le_of_ble_eq_true rfl) (Nat.le_of_ble_eq_true rfl) (Nat.le_of_ble_eq_true rfl) (Nat.le_of_ble_eq_true rfl) (Nat.le_of_ble_eq_true rfl) dX12_readDoor_39 eo44 (k_X12_number e42) rfl ?_
    show AW G lo 0 0 42 [(0, .ref (lo + x0)), (1, .int r5)] [.int r43] h41
    refine a_istore_n (lv2 := [(2, .int r43), (0, .ref (lo + x0)), (1, .int r5)]) C dX12_readDoor_42 rfl (by decide) rfl ?_
    refine a_aload_n C dX12_readDoor_43 rfl 1 rfl ?_
    refine a_bipush (v := (44 : Int32)) C dX12_readDoor_44 (by decide) ?_
    obtain ⟨u56, ec55, e⟩ := bA_some e
    obtain ⟨fs54, eo53⟩ := isC_some ec55
    obtain ⟨h50, e51, e⟩ := bA_some e
    refine a_callV (as := [.int (44 : Int32)]) (rest := []) C m_X12_mustSign im_X12_mustSign cb11 se_X12_X12_mustSign_X12_mustSign ml_X12_132 rfl (Nat.le_of_ble_eq_true rfl) (Nat.le_of_ble_eq_true rfl) (Nat.le_of_ble_eq_true rfl) (Nat.le_of_ble_eq_true rfl) (Nat.le_of_ble_eq_true rfl) dX12_readDoor_46 eo53 (k_X12_mustSign e51) rfl ?_
    show AW G lo 0 0 49 [(2, .int r43), (0, .ref (lo + x0)), (1, .int r5)] [] h50
    refine a_aload_n C dX12_readDoor_49 rfl 1 rfl ?_
    refine a_iload_n C dX12_readDoor_50 rfl 0 rfl ?_
    obtain ⟨u65, ec64, e⟩ := bA_some e
    obtain ⟨fs63, eo62⟩ := isC_some ec64
    obtain ⟨r61, h59, e60, e⟩ := b2_some e
    refine a_callV (as := [.int r43]) (rest := []) C m_X12_otherRoom im_X12_otherRoom cb11 se_X12_X12_otherRoom_X12_otherRoom ml_X12_135 rfl (Nat.le_of_ble_eq_true rfl) (Nat.le_of_ble_eq_true rfl) (Nat.le_of_ble_eq_true rfl) (Nat.le_of_ble_eq_true rfl) (Nat.le_of_ble_eq_true rfl) dX12_readDoor_51 eo62 (k_X12_otherRoom e60) rfl ?_
    show AW G lo 0 0 54 [(2, .int r43), (0, .ref (lo + x0)), (1, .int r5)] [.int r61] h59
    refine a_istore_n (lv2 := [(3, .int r61), (2, .int r43), (0, .ref (lo + x0)), (1, .int r5)]) C dX12_readDoor_54 rfl (by decide) rfl ?_
    refine a_aload_n C dX12_readDoor_55 rfl 2 rfl ?_
    refine a_bipush (v := (44 : Int32)) C dX12_readDoor_56 (by decide) ?_
    obtain ⟨u74, ec73, e⟩ := bA_some e
    obtain ⟨fs72, eo71⟩ := isC_some ec73
    obtain ⟨h68, e69, e⟩ := bA_some e
    refine a_callV (as := [.int (44 : Int32)]) (rest := []) C m_X12_mustSign im_X12_mustSign cb11 se_X12_X12_mustSign_X12_mustSign ml_X12_132 rfl (Nat.le_of_ble_eq_true rfl) (Nat.le_of_ble_eq_true rfl) (Nat.le_of_ble_eq_true rfl) (Nat.le_of_ble_eq_true rfl) (Nat.le_of_ble_eq_true rfl) dX12_readDoor_58 eo71 (k_X12_mustSign e69) rfl ?_
    show AW G lo 0 0 61 [(3, .int r61), (2, .int r43), (0, .ref (lo + x0)), (1, .int r5)] [] h68
    refine a_aload_n C dX12_readDoor_61 rfl 2 rfl ?_
    refine a_iconst (v := (0 : Int32)) C dX12_readDoor_62 (by decide) ?_
    refine a_bipush (v := (9 : Int32)) C dX12_readDoor_63 (by decide) ?_
    obtain ⟨u83, ec82, e⟩ := bA_some e
    obtain ⟨fs81, eo80⟩ := isC_some ec82
    obtain ⟨r79, h77, e78, e⟩ := b2_some e
    refine a_callV (as := [.int (0 : Int32), .int (9 : Int32)]) (rest := []) C m_X12_number im_X12_number cb11 se_X12_X12_number_X12_number ml_X12_128 rfl (Nat.le_of_ble_eq_true rfl) (Nat.le_of_ble_eq_true rfl) (Nat.le_of_ble_eq_true rfl) (Nat.le_of_ble_eq_true rfl) (Nat.le_of_ble_eq_true rfl) dX12_readDoor_65 eo80 (k_X12_number e78) rfl ?_
    show AW G lo 0 0 68 [(3, .int r61), (2, .int r43), (0, .ref (lo + x0)), (1, .int r5)] [.int r79] h77
    refine a_istore (lv2 := [(4, .int r79), (3, .int r61), (2, .int r43), (0, .ref (lo + x0)), (1, .int r5)]) C dX12_readDoor_68 (by decide) rfl ?_
    refine a_aload_n C dX12_readDoor_70 rfl 3 rfl ?_
    refine a_bipush (v := (59 : Int32)) C dX12_readDoor_71 (by decide) ?_
    obtain ⟨u92, ec91, e⟩ := bA_some e
    obtain ⟨fs90, eo89⟩ := isC_some ec91
    obtain ⟨h86, e87, e⟩ := bA_some e
    refine a_callV (as := [.int (59 : Int32)]) (rest := []) C m_X12_mustSign im_X12_mustSign cb11 se_X12_X12_mustSign_X12_mustSign ml_X12_132 rfl (Nat.le_of_ble_eq_true rfl) (Nat.le_of_ble_eq_true rfl) (Nat.le_of_ble_eq_true rfl) (Nat.le_of_ble_eq_true rfl) (Nat.le_of_ble_eq_true rfl) dX12_readDoor_73 eo89 (k_X12_mustSign e87) rfl ?_
    show AW G lo 0 0 76 [(4, .int r79), (3, .int r61), (2, .int r43), (0, .ref (lo + x0)), (1, .int r5)] [] h86
    refine a_aload_n C dX12_readDoor_76 rfl 3 rfl ?_
    obtain ⟨g96, e95, e⟩ := bA_some e
    refine a_getI C cb11 16 (by decide) fl_X12_84 rfl dX12_readDoor_77 e95 ?_
    obtain ⟨h98, eb100, e⟩ := bA_some e
    have jj99 : AW G lo 0 0 155 [(0, .ref (lo + x0)), (1, .int r5), (2, .int r43), (3, .int r61), (4, .int r79)] [] h98 := by
      obtain rfl := sp1 e
      exact a_vret C q (Nat.le_of_ble_eq_true rfl) (Nat.le_of_ble_eq_true rfl) dX12_readDoor_155
    have e := eb100
    refine a_if_ne (tgt := 155) C dX12_readDoor_80 (by decide) (fun c97 => ?_) (fun c97 => ?_)
    · have e := iN c97 e
      obtain rfl := sp1 e
      exact a_widen (Nat.le_of_ble_eq_true rfl) (Nat.le_of_ble_eq_true rfl) (a_sub [3, 4, 2, 1, 0] rfl jj99)
    · have e := ip c97 e
      refine a_bipush (v := (14 : Int32)) C dX12_readDoor_83 (by decide) ?_
      refine a_iconst (v := (5 : Int32)) C dX12_readDoor_85 (by decide) ?_
      refine a_aload_n C dX12_readDoor_86 rfl 3 rfl ?_
      obtain ⟨a102, e101, e⟩ := bA_some e
      refine a_getN C cb11 6 (by decide) fl_X12_22 rfl dX12_readDoor_87 e101 ?_
      refine a_iconst (v := (0 : Int32)) C dX12_readDoor_90 (by decide) ?_
      obtain ⟨v103, e104, e⟩ := bA_some e
      refine a_iald C dX12_readDoor_91 e104 ?_
      refine a_imul C dX12_readDoor_92 ?_
      refine a_iadd C dX12_readDoor_93 ?_
      refine a_istore (lv2 := [(5, .int ((14 : Int32) + ((5 : Int32) * v103))), (4, .int r79), (3, .int r61), (2, .int r43), (0, .ref (lo + x0)), (1, .int r5)]) C dX12_readDoor_94 (by decide) rfl ?_
      refine a_aload_n C dX12_readDoor_96 rfl 4 rfl ?_
      obtain ⟨a106, e105, e⟩ := bA_some e
      refine a_getN C cb11 6 (by decide) fl_X12_22 rfl dX12_readDoor_97 e105 ?_
      refine a_iload C dX12_readDoor_100 0 rfl ?_
      refine a_iload_n C dX12_readDoor_102 rfl 5 rfl ?_
      obtain ⟨h107, e108, e⟩ := bA_some e
      refine a_iast C dX12_readDoor_103 e108 ?_
      refine a_aload_n C dX12_readDoor_104 rfl 4 rfl ?_
      obtain ⟨a110, e109, e⟩ := bA_some e
      refine a_getN C cb11 6 (by decide) fl_X12_22 rfl dX12_readDoor_105 e109 ?_
      refine a_iload C dX12_readDoor_108 0 rfl ?_
      refine a_iconst (v := (1 : Int32)) C dX12_readDoor_110 (by decide) ?_
      refine a_iadd C dX12_readDoor_111 ?_
      refine a_iload_n C dX12_readDoor_112 rfl 3 rfl ?_
      obtain ⟨h111, e112, e⟩ := bA_some e
      refine a_iast C dX12_readDoor_113 e112 ?_
      refine a_aload_n C dX12_readDoor_114 rfl 4 rfl ?_
      obtain ⟨a114, e113, e⟩ := bA_some e
      refine a_getN C cb11 6 (by decide) fl_X12_22 rfl dX12_readDoor_115 e113 ?_
      refine a_iload C dX12_readDoor_118 0 rfl ?_
      refine a_iconst (v := (2 : Int32)) C dX12_readDoor_120 (by decide) ?_
      refine a_iadd C dX12_readDoor_121 ?_
      refine a_iload_n C dX12_readDoor_122 rfl 2 rfl ?_
      obtain ⟨h115, e116, e⟩ := bA_some e
      refine a_iast C dX12_readDoor_123 e116 ?_
      refine a_aload_n C dX12_readDoor_124 rfl 4 rfl ?_
      obtain ⟨a118, e117, e⟩ := bA_some e
      refine a_getN C cb11 6 (by decide) fl_X12_22 rfl dX12_readDoor_125 e117 ?_
      refine a_iload C dX12_readDoor_128 0 rfl ?_
      refine a_iconst (v := (3 : Int32)) C dX12_readDoor_130 (by decide) ?_
      refine a_iadd C dX12_readDoor_131 ?_
      refine a_iload C dX12_readDoor_132 1 rfl ?_
      obtain ⟨h119, e120, e⟩ := bA_some e
      refine a_iast C dX12_readDoor_134 e120 ?_
      refine a_aload_n C dX12_readDoor_135 rfl 4 rfl ?_
      obtain ⟨a122, e121, e⟩ := bA_some e
      refine a_getN C cb11 6 (by decide) fl_X12_22 rfl dX12_readDoor_136 e121 ?_
      refine a_iload C dX12_readDoor_139 0 rfl ?_
      refine a_iconst (v := (4 : Int32)) C dX12_readDoor_141 (by decide) ?_
      refine a_iadd C dX12_readDoor_142 ?_
      refine a_iconst (v := (0 : Int32)) C dX12_readDoor_143 (by decide) ?_
      obtain ⟨h123, e124, e⟩ := bA_some e
      refine a_iast C dX12_readDoor_144 e124 ?_
      refine a_aload_n C dX12_readDoor_145 rfl 4 rfl ?_
      obtain ⟨a126, e125, e⟩ := bA_some e
      refine a_getN C cb11 6 (by decide) fl_X12_22 rfl dX12_readDoor_146 e125 ?_
      refine a_iconst (v := (0 : Int32)) C dX12_readDoor_149 (by decide) ?_
      refine a_dup2 C dX12_readDoor_150 rfl rfl ?_
      obtain ⟨v127, e128, e⟩ := bA_some e
      refine a_iald C dX12_readDoor_151 e128 ?_
      refine a_iconst (v := (1 : Int32)) C dX12_readDoor_152 (by decide) ?_
      refine a_iadd C dX12_readDoor_153 ?_
      obtain ⟨h129, e130, e⟩ := bA_some e
      refine a_iast C dX12_readDoor_154 e130 ?_
      obtain rfl := sp1 e
      exact a_widen (Nat.le_of_ble_eq_true rfl) (Nat.le_of_ble_eq_true rfl) (a_sub [4, 5, 3, 2, 1] rfl jj99)
  have e := eb18
  refine a_icmp_ne (tgt := 24) C dX12_readDoor_16 (by decide) (fun c15 => ?_) (fun c15 => ?_)
  · have e := iN c15 e
    obtain rfl := sp1 e
    exact a_widen (Nat.le_of_ble_eq_true rfl) (Nat.le_of_ble_eq_true rfl) (a_sub [1, 0] rfl jj17)
  · have e := ip c15 e
    refine a_aload_n C dX12_readDoor_19 rfl 1 rfl ?_
    refine a_iconst (v := (3 : Int32)) C dX12_readDoor_20 (by decide) ?_
    obtain ⟨u25, ec24, e⟩ := bA_some e
    obtain ⟨fs23, eo22⟩ := isC_some ec24
    obtain ⟨h19, e20, e⟩ := bA_some e
    refine a_callV (as := [.int (3 : Int32)]) (rest := []) C m_X12_bad im_X12_bad cb11 se_X12_X12_bad_X12_bad ml_X12_111 rfl (Nat.le_of_ble_eq_true rfl) (Nat.le_of_ble_eq_true rfl) (Nat.le_of_ble_eq_true rfl) (Nat.le_of_ble_eq_true rfl) (Nat.le_of_ble_eq_true rfl) dX12_readDoor_21 eo22 (k_X12_bad e20) rfl ?_
    show AW G lo 0 0 24 [(1, .int r5), (0, .ref (lo + x0))] [] h19
    obtain rfl := sp1 e
    exact a_widen (Nat.le_of_ble_eq_true rfl) (Nat.le_of_ble_eq_true rfl) (a_sub [1, 0] rfl jj17)

set_option maxRecDepth 100000 in
def f_X12_house_L11 {β : Type} (k : Int32 → Hp → Option (β)) (x0 : Nat) : Nat → Hp → Int32 → Option (β)
  | 0, _, _ => none
  | fuel + 1, h, x1 => (if (54 : Int32) ≤ x1 then k x1 h else bA (gN h x0 11 6) fun a14 => bA (ast h a14 0 x1 (0 : Int32)) fun h15 => f_X12_house_L11 k x0 fuel h15 (x1 + (1 : Int32)))

set_option maxRecDepth 100000 in
def f_X12_house_L99 {β : Type} (k : Int32 → Hp → Option (β)) (x0 : Nat) : Nat → Hp → Int32 → Option (β)
  | 0, _, _ => none
  | fuel + 1, h, x1 => (if (2 : Int32) ≤ x1 then k x1 h else bA (isC h x0 11) fun u110 => b2 (f_X12_isRoomNext h x0 ) fun r106 h104 => bA (if r106 = 0 then bA (isC h104 x0 11) fun u132 => bA (f_X12_bad h104 x0 (1 : Int32)) fun h126 => some h126 else bA (isC h104 x0 11) fun u123 => bA (f_X12_readRoom h104 x0 ) fun h117 => some h117) fun h114 => f_X12_house_L99 k x0 fuel h114 (x1 + (1 : Int32)))

set_option maxRecDepth 100000 in
def f_X12_house_L129 {β : Type} (k : Hp → Option (β)) (x0 : Nat) (x1 : Int32) : Nat → Hp → Option (β)
  | 0, _ => none
  | fuel + 1, h => bA (isC h x0 11) fun u143 => b2 (f_X12_isRoomNext h x0 ) fun r139 h137 => (if r139 = 0 then k  h137 else bA (isC h137 x0 11) fun u153 => bA (f_X12_readRoom h137 x0 ) fun h147 => f_X12_house_L129 k x0 x1 fuel h147 )

set_option maxRecDepth 100000 in
def f_X12_house_L155 {β : Type} (k : Hp → Option (β)) (x0 : Nat) (x1 : Int32) : Nat → Hp → Option (β)
  | 0, _ => none
  | fuel + 1, h => bA (isC h x0 11) fun u185 => b2 (f_X12_isSort h x0 ) fun r181 h179 => (if r181 = 0 then k  h179 else bA (isC h179 x0 11) fun u195 => bA (f_X12_readDoor h179 x0 ) fun h189 => f_X12_house_L155 k x0 x1 fuel h189 )

set_option maxRecDepth 100000 in
def f_X12_house_L196 {β : Type} (k : Int32 → Hp → Option (β)) (x0 : Nat) : Nat → Hp → Int32 → Option (β)
  | 0, _, _ => none
  | fuel + 1, h, x1 => (if (54 : Int32) ≤ x1 then k x1 h else bA (gN h x0 11 5) fun a215 => bA (gN h x0 11 6) fun a217 => bA (ald h a217 0 x1) fun v218 => bA (ast h a215 0 x1 v218) fun h220 => f_X12_house_L196 k x0 fuel h220 (x1 + (1 : Int32)))

set_option maxRecDepth 100000 in
def f_X12_house (h : Hp) (x0 : Nat) : Option (Int32 × Hp) := bA (pV h x0 11 0 (.inl (0 : Int32))) fun h2 => bA (isC h2 x0 11) fun u9 => bA (f_X12_begin h2 x0 ) fun h3 => f_X12_house_L11 (fun y18 h17 => bA (isC h17 x0 11) fun u25 => b2 (f_X12_isLetter h17 x0 (104 : Int32)) fun r21 h19 => bA (isC h19 x0 11) fun u34 => bA (f_X12_must h19 x0 r21) fun h28 => bA (gN h28 x0 11 6) fun a38 => bA (isC h28 x0 11) fun u45 => b2 (f_X12_number h28 x0 (1 : Int32) (9 : Int32)) fun r41 h39 => bA (ast h39 a38 0 (2 : Int32) r41) fun h48 => bA (isC h48 x0 11) fun u56 => bA (f_X12_mustSign h48 x0 (44 : Int32)) fun h50 => bA (gN h50 x0 11 6) fun a60 => bA (isC h50 x0 11) fun u67 => b2 (f_X12_number h50 x0 (1 : Int32) (60 : Int32)) fun r63 h61 => bA (ast h61 a60 0 (3 : Int32) r63) fun h70 => bA (isC h70 x0 11) fun u78 => bA (f_X12_mustSign h70 x0 (44 : Int32)) fun h72 => bA (gN h72 x0 11 6) fun a82 => bA (isC h72 x0 11) fun u89 => b2 (f_X12_number h72 x0 (0 : Int32) (63 : Int32)) fun r85 h83 => bA (ast h83 a82 0 (4 : Int32) r85) fun h92 => bA (isC h92 x0 11) fun u100 => bA (f_X12_mustSign h92 x0 (59 : Int32)) fun h94 => f_X12_house_L99 (fun y136 h135 => f_X12_house_L129 (fun h156 => bA (isC h156 x0 11) fun u163 => b2 (f_X12_isSort h156 x0 ) fun r159 h157 => bA (if r159 = 0 then bA (isC h157 x0 11) fun u176 => bA (f_X12_bad h157 x0 (1 : Int32)) fun h170 => some h170 else some h157) fun h167 => f_X12_house_L155 (fun h198 => bA (isC h198 x0 11) fun u205 => b2 (f_X12_failed h198 x0 ) fun r201 h199 => (if r201 = 0 then bA (pV h199 x0 11 9 (.inl (0 : Int32))) fun h210 => bA (pV h210 x0 11 27 (.inl (0 : Int32))) fun h212 => f_X12_house_L196 (fun y223 h222 => bA (gN h222 x0 11 5) fun a225 => bA (ald h222 a225 0 (0 : Int32)) fun v226 => some (v226, h222)) x0 2000 h212 (0 : Int32) else bA (gI h199 x0 11 17) fun g229 => some (((-1000100 : Int32) - g229), h199))) x0 y136 2000 h167 ) x0 y136 2000 h135 ) x0 2000 h94 (0 : Int32)) x0 2000 h3 (0 : Int32)

theorem m_X12_house : MI yX12_house cX12_house 2 (some .int) 0 := ⟨co_X12_house, ini_X12, by decide, by decide +kernel⟩
set_option maxRecDepth 100000 in
set_option maxHeartbeats 4000000 in
theorem w_X12_house_L11 {G : Gm} {lo : Nat} {ce sl : Nat} (C : CX G lo cX12_house RX12 (some .int) ({ frames := 6, cells := 0, slots := 0, locals := 135 } : Room) 2) {β : Type} {res : β} {k : Int32 → Hp → Option (β)} {x0 : Nat} (hk : ∀ (h : Hp) (x1 : Int32), k x1 h = some res → AW G lo ce sl 30 [(0, .ref (lo + x0)), (1, .int x1)] [] h) (hce : ce ≤ 0) (hsl : sl ≤ 0) : ∀ (fuel : Nat) (h : Hp) (x1 : Int32), f_X12_house_L11 k x0 fuel h x1 = some res → AW G lo ce sl 11 [(0, .ref (lo + x0)), (1, .int x1)] [] h := by
  intro fuel
  induction fuel with
  | zero =>
    intro h x1 e
    cases (show (none : Option (β)) = some res from e)
  | succ fuel ih =>
    intro h x1 e
    rw [f_X12_house_L11] at e
    refine a_iload_n C dX12_house_11 rfl 1 rfl ?_
    refine a_bipush (v := (54 : Int32)) C dX12_house_12 (by decide) ?_
    refine a_icmp_ge (tgt := 30) C dX12_house_14 (by decide) (fun c12 => ?_) (fun c12 => ?_)
    · have e := ip c12 e
      exact a_sub [0, 1] rfl (hk _ _ e)
    · have e := iN c12 e
      refine a_aload_n C dX12_house_17 rfl 0 rfl ?_
      obtain ⟨a14, e13, e⟩ := bA_some e
      refine a_getN C cb11 6 (by decide) fl_X12_22 rfl dX12_house_18 e13 ?_
      refine a_iload_n C dX12_house_21 rfl 1 rfl ?_
      refine a_iconst (v := (0 : Int32)) C dX12_house_22 (by decide) ?_
      obtain ⟨h15, e16, e⟩ := bA_some e
      refine a_iast C dX12_house_23 e16 ?_
      refine a_iinc (v := x1 + (1 : Int32)) (lv2 := [(1, .int (x1 + (1 : Int32))), (0, .ref (lo + x0))]) C dX12_house_24 1 rfl rfl (by decide) rfl ?_
      refine a_goto (tgt := 11) C dX12_house_27 (by decide) ?_
      exact a_sub [1, 0] rfl (ih _ _ e)
set_option maxRecDepth 100000 in
set_option maxHeartbeats 4000000 in
theorem w_X12_house_L99 {G : Gm} {lo : Nat} {ce sl : Nat} (C : CX G lo cX12_house RX12 (some .int) ({ frames := 6, cells := 0, slots := 0, locals := 135 } : Room) 2) {β : Type} {res : β} {k : Int32 → Hp → Option (β)} {x0 : Nat} (hk : ∀ (h : Hp) (x1 : Int32), k x1 h = some res → AW G lo ce sl 129 [(0, .ref (lo + x0)), (1, .int x1)] [] h) (hce : ce ≤ 0) (hsl : sl ≤ 0) : ∀ (fuel : Nat) (h : Hp) (x1 : Int32), f_X12_house_L99 k x0 fuel h x1 = some res → AW G lo ce sl 99 [(0, .ref (lo + x0)), (1, .int x1)] [] h := by
  intro fuel
  induction fuel with
  | zero =>
    intro h x1 e
    cases (show (none : Option (β)) = some res from e)
  | succ fuel ih =>
    intro h x1 e
    rw [f_X12_house_L99] at e
    refine a_iload_n C dX12_house_99 rfl 1 rfl ?_
    refine a_iconst (v := (2 : Int32)) C dX12_house_100 (by decide) ?_
    refine a_icmp_ge (tgt := 129) C dX12_house_101 (by decide) (fun c103 => ?_) (fun c103 => ?_)
    · have e := ip c103 e
      exact a_sub [0, 1] rfl (hk _ _ e)
    · have e := iN c103 e
      refine a_aload_n C dX12_house_104 rfl 0 rfl ?_
      obtain ⟨u110, ec109, e⟩ := bA_some e
      obtain ⟨fs108, eo107⟩ := isC_some ec109
      obtain ⟨r106, h104, e105, e⟩ := b2_some e
      refine a_callV (as := []) (rest := []) C m_X12_isRoomNext im_X12_isRoomNext cb11 se_X12_X12_isRoomNext_X12_isRoomNext ml_X12_144 rfl (Nat.le_of_ble_eq_true rfl) (Nat.le_of_ble_eq_true rfl) (by exact hce) (by exact hsl) (Nat.le_of_ble_eq_true rfl) dX12_house_105 eo107 (k_X12_isRoomNext e105) rfl ?_
      show AW G lo ce sl 108 [(0, .ref (lo + x0)), (1, .int x1)] [.int r106] h104
      obtain ⟨h114, eb116, e⟩ := bA_some e
      have jj115 : AW G lo ce sl 123 [(0, .ref (lo + x0)), (1, .int x1)] [] h114 := by
        refine a_iinc (v := x1 + (1 : Int32)) (lv2 := [(1, .int (x1 + (1 : Int32))), (0, .ref (lo + x0))]) C dX12_house_123 1 rfl rfl (by decide) rfl ?_
        refine a_goto (tgt := 99) C dX12_house_126 (by decide) ?_
        exact a_sub [1, 0] rfl (ih _ _ e)
      have e := eb116
      refine a_if_ne (tgt := 119) C dX12_house_108 (by decide) (fun c113 => ?_) (fun c113 => ?_)
      · have e := iN c113 e
        refine a_aload_n C dX12_house_119 rfl 0 rfl ?_
        obtain ⟨u123, ec122, e⟩ := bA_some e
        obtain ⟨fs121, eo120⟩ := isC_some ec122
        obtain ⟨h117, e118, e⟩ := bA_some e
        refine a_callV (as := []) (rest := []) C m_X12_readRoom im_X12_readRoom cb11 se_X12_X12_readRoom_X12_readRoom ml_X12_148 rfl (Nat.le_of_ble_eq_true rfl) (Nat.le_of_ble_eq_true rfl) (by exact hce) (by exact hsl) (Nat.le_of_ble_eq_true rfl) dX12_house_120 eo120 (k_X12_readRoom e118) rfl ?_
        show AW G lo ce sl 123 [(0, .ref (lo + x0)), (1, .int x1)] [] h117
        obtain rfl := sp1 e
        exact a_widen (Nat.le_refl _) (Nat.le_refl _) (a_sub [0, 1] rfl jj115)
      · have e := ip c113 e
        refine a_aload_n C dX12_house_111 rfl 0 rfl ?_
        refine a_iconst (v := (1 : Int32)) C dX12_house_112 (by decide) ?_
        obtain ⟨u132, ec131, e⟩ := bA_some e
        obtain ⟨fs130, eo129⟩ := isC_some ec131
        obtain ⟨h126, e127, e⟩ := bA_some e
        refine a_callV (as := [.int (1 : Int32)]) (rest := []) C m_X12_bad im_X12_bad cb11 se_X12_X12_bad_X12_bad ml_X12_111 rfl (Nat.le_of_ble_eq_true rfl) (Nat.le_of_ble_eq_true rfl) (by exact hce) (by exact hsl) (Nat.le_of_ble_eq_true rfl) dX12_house_113 eo129 (k_X12_bad e127) rfl ?_
        show AW G lo ce sl 116 [(0, .ref (lo + x0)), (1, .int x1)] [] h126
        refine a_goto (tgt := 123) C dX12_house_116 (by decide) ?_
        obtain rfl := sp1 e
        exact a_widen (Nat.le_refl _) (Nat.le_refl _) (a_sub [0, 1] rfl jj115)
set_option maxRecDepth 100000 in
set_option maxHeartbeats 4000000 in
theorem w_X12_house_L129 {G : Gm} {lo : Nat} {ce sl : Nat} (C : CX G lo cX12_house RX12 (some .int) ({ frames := 6, cells := 0, slots := 0, locals := 135 } : Room) 2) {β : Type} {res : β} {k : Hp → Option (β)} {x0 : Nat} {x1 : Int32} (hk : ∀ (h : Hp) , k h = some res → AW G lo ce sl 143 [(0, .ref (lo + x0)), (1, .int x1)] [] h) (hce : ce ≤ 0) (hsl : sl ≤ 0) : ∀ (fuel : Nat) (h : Hp) , f_X12_house_L129 k x0 x1 fuel h  = some res → AW G lo ce sl 129 [(0, .ref (lo + x0)), (1, .int x1)] [] h := by
  intro fuel
  induction fuel with
  | zero =>
    intro h  e
    cases (show (none : Option (β)) = some res from e)
  | succ fuel ih =>
    intro h  e
    rw [f_X12_house_L129] at e
    refine a_aload_n C dX12_house_129 rfl 0 rfl ?_
    obtain ⟨u143, ec142, e⟩ := bA_some e
    obtain ⟨fs141, eo140⟩ := isC_some ec142
    obtain ⟨r139, h137, e138, e⟩ := b2_some e
    refine a_callV (as := []) (rest := []) C m_X12_isRoomNext im_X12_isRoomNext cb11 se_X12_X12_isRoomNext_X12_isRoomNext ml_X12_144 rfl (Nat.le_of_ble_eq_true rfl) (Nat.le_of_ble_eq_true rfl) (by exact hce) (by exact hsl) (Nat.le_of_ble_eq_true rfl) dX12_house_130 eo140 (k_X12_isRoomNext e138) rfl ?_
    show AW G lo ce sl 133 [(0, .ref (lo + x0)), (1, .int x1)] [.int r139] h137
    refine a_if_eq (tgt := 143) C dX12_house_133 (by decide) (fun c146 => ?_) (fun c146 => ?_)
    · have e := ip c146 e
      exact a_sub [0, 1] rfl (hk _  e)
    · have e := iN c146 e
      refine a_aload_n C dX12_house_136 rfl 0 rfl ?_
      obtain ⟨u153, ec152, e⟩ := bA_some e
      obtain ⟨fs151, eo150⟩ := isC_some ec152
      obtain ⟨h147, e148, e⟩ := bA_some e
      refine a_callV (as := []) (rest := []) C m_X12_readRoom im_X12_readRoom cb11 se_X12_X12_readRoom_X12_readRoom ml_X12_148 rfl (Nat.le_of_ble_eq_true rfl) (Nat.le_of_ble_eq_true rfl) (by exact hce) (by exact hsl) (Nat.le_of_ble_eq_true rfl) dX12_house_137 eo150 (k_X12_readRoom e148) rfl ?_
      show AW G lo ce sl 140 [(0, .ref (lo + x0)), (1, .int x1)] [] h147
      refine a_goto (tgt := 129) C dX12_house_140 (by decide) ?_
      exact a_sub [0, 1] rfl (ih _  e)
set_option maxRecDepth 100000 in
set_option maxHeartbeats 4000000 in
theorem w_X12_house_L155 {G : Gm} {lo : Nat} {ce sl : Nat} (C : CX G lo cX12_house RX12 (some .int) ({ frames := 6, cells := 0, slots := 0, locals := 135 } : Room) 2) {β : Type} {res : β} {k : Hp → Option (β)} {x0 : Nat} {x1 : Int32} (hk : ∀ (h : Hp) , k h = some res → AW G lo ce sl 169 [(0, .ref (lo + x0)), (1, .int x1)] [] h) (hce : ce ≤ 0) (hsl : sl ≤ 0) : ∀ (fuel : Nat) (h : Hp) , f_X12_house_L155 k x0 x1 fuel h  = some res → AW G lo ce sl 155 [(0, .ref (lo + x0)), (1, .int x1)] [] h := by
  intro fuel
  induction fuel with
  | zero =>
    intro h  e
    cases (show (none : Option (β)) = some res from e)
  | succ fuel ih =>
    intro h  e
    rw [f_X12_house_L155] at e
    refine a_aload_n C dX12_house_155 rfl 0 rfl ?_
    obtain ⟨u185, ec184, e⟩ := bA_some e
    obtain ⟨fs183, eo182⟩ := isC_some ec184
    obtain ⟨r181, h179, e180, e⟩ := b2_some e
    refine a_callV (as := []) (rest := []) C m_X12_isSort im_X12_isSort cb11 se_X12_X12_isSort_X12_isSort ml_X12_151 rfl (Nat.le_of_ble_eq_true rfl) (Nat.le_of_ble_eq_true rfl) (by exact hce) (by exact hsl) (Nat.le_of_ble_eq_true rfl) dX12_house_156 eo182 (k_X12_isSort e180) rfl ?_
    show AW G lo ce sl 159 [(0, .ref (lo + x0)), (1, .int x1)] [.int r181] h179
    refine a_if_eq (tgt := 169) C dX12_house_159 (by decide) (fun c188 => ?_) (fun c188 => ?_)
    · have e := ip c188 e
      exact a_sub [0, 1] rfl (hk _  e)
    · have e := iN c188 e
      refine a_aload_n C dX12_house_162 rfl 0 rfl ?_
      obtain ⟨u195, ec194, e⟩ := bA_some e
      obtain ⟨fs193, eo192⟩ := isC_some ec194
      obtain ⟨h189, e190, e⟩ := bA_some e
      refine a_callV (as := []) (rest := []) C m_X12_readDoor im_X12_readDoor cb11 se_X12_X12_readDoor_X12_readDoor ml_X12_154 rfl (Nat.le_of_ble_eq_true rfl) (Nat.le_of_ble_eq_true rfl) (by exact hce) (by exact hsl) (Nat.le_of_ble_eq_true rfl) dX12_house_163 eo192 (k_X12_readDoor e190) rfl ?_
      show AW G lo ce sl 166 [(0, .ref (lo + x0)), (1, .int x1)] [] h189
      refine a_goto (tgt := 155) C dX12_house_166 (by decide) ?_
      exact a_sub [0, 1] rfl (ih _  e)
set_option maxRecDepth 100000 in
set_option maxHeartbeats 4000000 in
theorem w_X12_house_L196 {G : Gm} {lo : Nat} {ce sl : Nat} (C : CX G lo cX12_house RX12 (some .int) ({ frames := 6, cells := 0, slots := 0, locals := 135 } : Room) 2) {β : Type} {res : β} {k : Int32 → Hp → Option (β)} {x0 : Nat} (hk : ∀ (h : Hp) (x1 : Int32), k x1 h = some res → AW G lo ce sl 220 [(0, .ref (lo + x0)), (1, .int x1)] [] h) (hce : ce ≤ 0) (hsl : sl ≤ 0) : ∀ (fuel : Nat) (h : Hp) (x1 : Int32), f_X12_house_L196 k x0 fuel h x1 = some res → AW G lo ce sl 196 [(0, .ref (lo + x0)), (1, .int x1)] [] h := by
  intro fuel
  induction fuel with
  | zero =>
    intro h x1 e
    cases (show (none : Option (β)) = some res from e)
  | succ fuel ih =>
    intro h x1 e
    rw [f_X12_house_L196] at e
    refine a_iload_n C dX12_house_196 rfl 1 rfl ?_
    refine a_bipush (v := (54 : Int32)) C dX12_house_197 (by decide) ?_
    refine a_icmp_ge (tgt := 220) C dX12_house_199 (by decide) (fun c213 => ?_) (fun c213 => ?_)
    · have e := ip c213 e
      exact a_sub [0, 1] rfl (hk _ _ e)
    · have e := iN c213 e
      refine a_aload_n C dX12_house_202 rfl 0 rfl ?_
      obtain ⟨a215, e214, e⟩ := bA_some e
      refine a_getN C cb11 5 (by decide) fl_X12_19 rfl dX12_house_203 e214 ?_
      refine a_iload_n C dX12_house_206 rfl 1 rfl ?_
      refine a_aload_n C dX12_house_207 rfl 0 rfl ?_
      obtain ⟨a217, e216, e⟩ := bA_some e
      refine a_getN C cb11 6 (by decide) fl_X12_22 rfl dX12_house_208 e216 ?_
      refine a_iload_n C dX12_house_211 rfl 1 rfl ?_
      obtain ⟨v218, e219, e⟩ := bA_some e
      refine a_iald C dX12_house_212 e219 ?_
      obtain ⟨h220, e221, e⟩ := bA_some e
      refine a_iast C dX12_house_213 e221 ?_
      refine a_iinc (v := x1 + (1 : Int32)) (lv2 := [(1, .int (x1 + (1 : Int32))), (0, .ref (lo + x0))]) C dX12_house_214 1 rfl rfl (by decide) rfl ?_
      refine a_goto (tgt := 196) C dX12_house_217 (by decide) ?_
      exact a_sub [1, 0] rfl (ih _ _ e)
set_option maxRecDepth 100000 in
set_option maxHeartbeats 4000000 in
theorem k_X12_house {lo : Nat} {h : Hp} {x0 : Nat} {r : Int32} {h' : Hp} (e : f_X12_house h x0 = some (r, h')) : ∀ l d, AC l d lo yX12_house cX12_house 2 (some .int) ({ frames := 6, cells := 0, slots := 0, locals := 135 } : Room) [.ref (lo + x0)] h (some (.int r)) h' := by
  intro l d
  refine AC_of (by decide) (Nat.le_of_ble_eq_true rfl) ?_
  intro G C _ _ q
  unfold f_X12_house at e
  show AW G lo 0 0 0 [(0, .ref (lo + x0))] [] h
  refine a_aload_n C dX12_house_0 rfl 0 rfl ?_
  refine a_iconst (v := (0 : Int32)) C dX12_house_1 (by decide) ?_
  obtain ⟨h2, e1, e⟩ := bA_some e
  refine a_putI C cb11 0 (by decide) fl_X12_53 rfl (by decide +kernel) dX12_house_2 e1 ?_
  refine a_aload_n C dX12_house_5 rfl 0 rfl ?_
  obtain ⟨u9, ec8, e⟩ := bA_some e
  obtain ⟨fs7, eo6⟩ := isC_some ec8
  obtain ⟨h3, e4, e⟩ := bA_some e
  refine a_callV (as := []) (rest := []) C m_X12_begin im_X12_begin cb11 se_X12_X12_begin_X12_begin ml_X12_138 rfl (Nat.le_of_ble_eq_true rfl) (Nat.le_of_ble_eq_true rfl) (Nat.le_of_ble_eq_true rfl) (Nat.le_of_ble_eq_true rfl) (Nat.le_of_ble_eq_true rfl) dX12_house_6 eo6 (k_X12_begin e4) rfl ?_
  show AW G lo 0 0 9 [(0, .ref (lo + x0))] [] h3
  refine a_iconst (v := (0 : Int32)) C dX12_house_9 (by decide) ?_
  refine a_istore_n (lv2 := [(1, .int (0 : Int32)), (0, .ref (lo + x0))]) C dX12_house_10 rfl (by decide) rfl ?_
  refine a_sub [1, 0] rfl (w_X12_house_L11 C ?_ (Nat.le_of_ble_eq_true rfl) (Nat.le_of_ble_eq_true rfl) 2000 _ _ e)
  intro h17 y18 e
  show AW G lo 0 0 30 [(0, .ref (lo + x0)), (1, .int y18)] [] h17
  refine a_aload_n C dX12_house_30 rfl 0 rfl ?_
  refine a_aload_n C dX12_house_31 rfl 0 rfl ?_
  refine a_bipush (v := (104 : Int32)) C dX12_house_32 (by decide) ?_
  obtain ⟨u25, ec24, e⟩ := bA_some e
  obtain ⟨fs23, eo22⟩ := isC_some ec24
  obtain ⟨r21, h19, e20, e⟩ := b2_some e
  refine a_callV (as := [.int (104 : Int32)]) (rest := [.ref (lo + x0)]) C m_X12_isLetter im_X12_isLetter cb11 se_X12_X12_isLetter_X12_isLetter ml_X12_141 rfl (Nat.le_of_ble_eq_true rfl) (Nat.le_of_ble_eq_true rfl) (Nat.le_of_ble_eq_true rfl) (Nat.le_of_ble_eq_true rfl) (Nat.le_of_ble_eq_true rfl) dX12_house_34 eo22 (k_X12_isLetter e20) rfl ?_
  show AW G lo 0 0 37 [(0, .ref (lo + x0)), (1, .int y18)] [.int r21, .ref (lo + x0)] h19
  obtain ⟨u34, ec33, e⟩ := bA_some e
  obtain ⟨fs32, eo31⟩ := isC_some ec33
  obtain ⟨h28, e29, e⟩ := bA_some e
  refine a_callV (as := [.int r21]) (rest := []) C m_X12_must im_X12_must cb11 se_X12_X12_must_X12_must ml_X12_118 rfl (Nat.le_of_ble_eq_true rfl) (Nat.le_of_ble_eq_true rfl) (Nat.le_of_ble_eq_true rfl) (Nat.le_of_ble_eq_true rfl) (Nat.le_of_ble_eq_true rfl) dX12_house_37 eo31 (k_X12_must e29) rfl ?_
  show AW G lo 0 0 40 [(0, .ref (lo + x0)), (1, .int y18)] [] h28
  refine a_aload_n C dX12_house_40 rfl 0 rfl ?_
  obtain ⟨a38, e37, e⟩ := bA_some e
  refine a_getN C cb11 6 (by decide) fl_X12_22 rfl dX12_house_41 e37 ?_
  refine a_iconst (v := (2 : Int32)) C dX12_house_44 (by decide) ?_
  refine a_aload_n C dX12_house_45 rfl 0 rfl ?_
  refine a_iconst (v := (1 : Int32)) C dX12_house_46 (by decide) ?_
  refine a_bipush (v := (9 : Int32)) C dX12_house_47 (by decide) ?_
  obtain ⟨u45, ec44, e⟩ := bA_some e
  obtain ⟨fs43, eo42⟩ := isC_some ec44
  obtain ⟨r41, h39, e40, e⟩ := b2_some e
  refine a_callV (as := [.int (1 : Int32), .int (9 : Int32)]) (rest := [.int (2 : Int32), .ref (lo + a38)]) C m_X12_number im_X12_number cb11 se_X12_X12_number_X12_number ml_X12_128 rfl (Nat.le_of_ble_eq_true rfl) (Nat.le_of_ble_eq_true rfl) (Nat.le_of_ble_eq_true rfl) (Nat.le_of_ble_eq_true rfl) (Nat.le_of_ble_eq_true rfl) dX12_house_49 eo42 (k_X12_number e40) rfl ?_
  show AW G lo 0 0 52 [(0, .ref (lo + x0)), (1, .int y18)] [.int r41, .int (2 : Int32), .ref (lo + a38)] h39
  obtain ⟨h48, e49, e⟩ := bA_some e
  refine a_iast C dX12_house_52 e49 ?_
  refine a_aload_n C dX12_house_53 rfl 0 rfl ?_
  refine a_bipush (v := (44 : Int32)) C dX12_house_54 (by decide) ?_
  obtain ⟨u56, ec55, e⟩ := bA_some e
  obtain ⟨fs54, eo53⟩ := isC_some ec55
  obtain ⟨h50, e51, e⟩ := bA_some e
  refine a_callV (as := [.int (44 : Int32)]) (rest := []) C m_X12_mustSign im_X12_mustSign cb11 se_X12_X12_mustSign_X12_mustSign ml_X12_132 rfl (Nat.le_of_ble_eq_true rfl) (Nat.le_of_ble_eq_true rfl) (Nat.le_of_ble_eq_true rfl) (Nat.le_of_ble_eq_true rfl) (Nat.le_of_ble_eq_true rfl) dX12_house_56 eo53 (k_X12_mustSign e51) rfl ?_
  show AW G lo 0 0 59 [(0, .ref (lo + x0)), (1, .int y18)] [] h50
  refine a_aload_n C dX12_house_59 rfl 0 rfl ?_
  obtain ⟨a60, e59, e⟩ := bA_some e
  refine a_getN C cb11 6 (by decide) fl_X12_22 rfl dX12_house_60 e59 ?_
  refine a_iconst (v := (3 : Int32)) C dX12_house_63 (by decide) ?_
  refine a_aload_n C dX12_house_64 rfl 0 rfl ?_
  refine a_iconst (v := (1 : Int32)) C dX12_house_65 (by decide) ?_
  refine a_bipush (v := (60 : Int32)) C dX12_house_66 (by decide) ?_
  obtain ⟨u67, ec66, e⟩ := bA_some e
  obtain ⟨fs65, eo64⟩ := isC_some ec66
  obtain ⟨r63, h61, e62, e⟩ := b2_some e
  refine a_callV (as := [.int (1 : Int32), .int (60 : Int32)]) (rest := [.int (3 : Int32), .ref (lo + a60)]) C m_X12_number im_X12_number cb11 se_X12_X12_number_X12_number ml_X12_128 rfl (Nat.le_of_ble_eq_true rfl) (Nat.le_of_ble_eq_true rfl) (Nat.le_of_ble_eq_true rfl) (Nat.le_of_ble_eq_true rfl) (Nat.le_of_ble_eq_true rfl) dX12_house_68 eo64 (k_X12_number e62) rfl ?_
  show AW G lo 0 0 71 [(0, .ref (lo + x0)), (1, .int y18)] [.int r63, .int (3 : Int32), .ref (lo + a60)] h61
  obtain ⟨h70, e71, e⟩ := bA_some e
  refine a_iast C dX12_house_71 e71 ?_
  refine a_aload_n C dX12_house_72 rfl 0 rfl ?_
  refine a_bipush (v := (44 : Int32)) C dX12_house_73 (by decide) ?_
  obtain ⟨u78, ec77, e⟩ := bA_some e
  obtain ⟨fs76, eo75⟩ := isC_some ec77
  obtain ⟨h72, e73, e⟩ := bA_some e
  refine a_callV (as := [.int (44 : Int32)]) (rest := []) C m_X12_mustSign im_X12_mustSign cb11 se_X12_X12_mustSign_X12_mustSign ml_X12_132 rfl (Nat.le_of_ble_eq_true rfl) (Nat.le_of_ble_eq_true rfl) (Nat.le_of_ble_eq_true rfl) (Nat.le_of_ble_eq_true rfl) (Nat.le_of_ble_eq_true rfl) dX12_house_75 eo75 (k_X12_mustSign e73) rfl ?_
  show AW G lo 0 0 78 [(0, .ref (lo + x0)), (1, .int y18)] [] h72
  refine a_aload_n C dX12_house_78 rfl 0 rfl ?_
  obtain ⟨a82, e81, e⟩ := bA_some e
  refine a_getN C cb11 6 (by decide) fl_X12_22 rfl dX12_house_79 e81 ?_
  refine a_iconst (v := (4 : Int32)) C dX12_house_82 (by decide) ?_
  refine a_aload_n C dX12_house_83 rfl 0 rfl ?_
  refine a_iconst (v := (0 : Int32)) C dX12_house_84 (by decide) ?_
  refine a_bipush (v := (63 : Int32)) C dX12_house_85 (by decide) ?_
  obtain ⟨u89, ec88, e⟩ := bA_some e
  obtain ⟨fs87, eo86⟩ := isC_some ec88
  obtain ⟨r85, h83, e84, e⟩ := b2_some e
  refine a_callV (as := [.int (0 : Int32), .int (63 : Int32)]) (rest := [.int (4 : Int32), .ref (lo + a82)]) C m_X12_number im_X12_number cb11 se_X12_X12_number_X12_number ml_X12_128 rfl (Nat.le_of_ble_eq_true rfl) (Nat.le_of_ble_eq_true rfl) (Nat.le_of_ble_eq_true rfl) (Nat.le_of_ble_eq_true rfl) (Nat.le_of_ble_eq_true rfl) dX12_house_87 eo86 (k_X12_number e84) rfl ?_
  show AW G lo 0 0 90 [(0, .ref (lo + x0)), (1, .int y18)] [.int r85, .int (4 : Int32), .ref (lo + a82)] h83
  obtain ⟨h92, e93, e⟩ := bA_some e
  refine a_iast C dX12_house_90 e93 ?_
  refine a_aload_n C dX12_house_91 rfl 0 rfl ?_
  refine a_bipush (v := (59 : Int32)) C dX12_house_92 (by decide) ?_
  obtain ⟨u100, ec99, e⟩ := bA_some e
  obtain ⟨fs98, eo97⟩ := isC_some ec99
  obtain ⟨h94, e95, e⟩ := bA_some e
  refine a_callV (as := [.int (59 : Int32)]) (rest := []) C m_X12_mustSign im_X12_mustSign cb11 se_X12_X12_mustSign_X12_mustSign ml_X12_132 rfl (Nat.le_of_ble_eq_true rfl) (Nat.le_of_ble_eq_true rfl) (Nat.le_of_ble_eq_true rfl) (Nat.le_of_ble_eq_true rfl) (Nat.le_of_ble_eq_true rfl) dX12_house_94 eo97 (k_X12_mustSign e95) rfl ?_
  show AW G lo 0 0 97 [(0, .ref (lo + x0)), (1, .int y18)] [] h94
  refine a_iconst (v := (0 : Int32)) C dX12_house_97 (by decide) ?_
  refine a_istore_n (lv2 := [(1, .int (0 : Int32)), (0, .ref (lo + x0))]) C dX12_house_98 rfl (by decide) rfl ?_
  refine a_sub [1, 0] rfl (w_X12_house_L99 C ?_ (Nat.le_of_ble_eq_true rfl) (Nat.le_of_ble_eq_true rfl) 2000 _ _ e)
  intro h135 y136 e
  show AW G lo 0 0 129 [(0, .ref (lo + x0)), (1, .int y136)] [] h135
  refine a_sub [0, 1] rfl (w_X12_house_L129 C ?_ (Nat.le_of_ble_eq_true rfl) (Nat.le_of_ble_eq_true rfl) 2000 _  e)
  intro h156  e
  show AW G lo 0 0 143 [(0, .ref (lo + x0)), (1, .int y136)] [] h156
  refine a_aload_n C dX12_house_143 rfl 0 rfl ?_
  obtain ⟨u163, ec162, e⟩ := bA_some e
  obtain ⟨fs161, eo160⟩ := isC_some ec162
  obtain ⟨r159, h157, e158, e⟩ := b2_some e
  refine a_callV (as := []) (rest := []) C m_X12_isSort im_X12_isSort cb11 se_X12_X12_isSort_X12_isSort ml_X12_151 rfl (Nat.le_of_ble_eq_true rfl) (Nat.le_of_ble_eq_true rfl) (Nat.le_of_ble_eq_true rfl) (Nat.le_of_ble_eq_true rfl) (Nat.le_of_ble_eq_true rfl) dX12_house_144 eo160 (k_X12_isSort e158) rfl ?_
  show AW G lo 0 0 147 [(0, .ref (lo + x0)), (1, .int y136)] [.int r159] h157
  obtain ⟨h167, eb169, e⟩ := bA_some e
  have jj168 : AW G lo 0 0 155 [(0, .ref (lo + x0)), (1, .int y136)] [] h167 := by
    refine a_sub [0, 1] rfl (w_X12_house_L155 C ?_ (Nat.le_of_ble_eq_true rfl) (Nat.le_of_ble_eq_true rfl) 2000 _  e)
    intro h198  e
    show AW G lo 0 0 169 [(0, .ref (lo + x0)), (1, .int y136)] [] h198
    refine a_aload_n C dX12_house_169 rfl 0 rfl ?_
    obtain ⟨u205, ec204, e⟩ := bA_some e
    obtain ⟨fs203, eo202⟩ := isC_some ec204
    obtain ⟨r201, h199, e200, e⟩ := b2_some e
    refine a_callV (as := []) (rest := []) C m_X12_failed im_X12_failed cb11 se_X12_X12_failed_X12_failed ml_X12_157 rfl (Nat.le_of_ble_eq_true rfl) (Nat.le_of_ble_eq_true rfl) (Nat.le_of_ble_eq_true rfl) (Nat.le_of_ble_eq_true rfl) (Nat.le_of_ble_eq_true rfl) dX12_house_170 eo202 (k_X12_failed e200) rfl ?_
    show AW G lo 0 0 173 [(0, .ref (lo + x0)), (1, .int y136)] [.int r201] h199
    refine a_if_eq (tgt := 184) C dX12_house_173 (by decide) (fun c208 => ?_) (fun c208 => ?_)
    · have e := ip c208 e
      refine a_aload_n C dX12_house_184 rfl 0 rfl ?_
      refine a_iconst (v := (0 : Int32)) C dX12_house_185 (by decide) ?_
      obtain ⟨h210, e209, e⟩ := bA_some e
      refine a_putI C cb11 9 (by decide) fl_X12_161 rfl (by decide +kernel) dX12_house_186 e209 ?_
      refine a_aload_n C dX12_house_189 rfl 0 rfl ?_
      refine a_iconst (v := (0 : Int32)) C dX12_house_190 (by decide) ?_
      obtain ⟨h212, e211, e⟩ := bA_some e
      refine a_putI C cb11 27 (by decide) fl_X12_164 rfl (by decide +kernel) dX12_house_191 e211 ?_
      refine a_iconst (v := (0 : Int32)) C dX12_house_194 (by decide) ?_
      refine a_istore_n (lv2 := [(1, .int (0 : Int32)), (0, .ref (lo + x0))]) C dX12_house_195 rfl (by decide) rfl ?_
      refine a_sub [1, 0] rfl (w_X12_house_L196 C ?_ (Nat.le_of_ble_eq_true rfl) (Nat.le_of_ble_eq_true rfl) 2000 _ _ e)
      intro h222 y223 e
      show AW G lo 0 0 220 [(0, .ref (lo + x0)), (1, .int y223)] [] h222
      refine a_aload_n C dX12_house_220 rfl 0 rfl ?_
      obtain ⟨a225, e224, e⟩ := bA_some e
      refine a_getN C cb11 5 (by decide) fl_X12_19 rfl dX12_house_221 e224 ?_
      refine a_iconst (v := (0 : Int32)) C dX12_house_224 (by decide) ?_
      obtain ⟨v226, e227, e⟩ := bA_some e
      refine a_iald C dX12_house_225 e227 ?_
      obtain ⟨rfl, rfl⟩ := sp2 e
      exact a_iret C q (Nat.le_of_ble_eq_true rfl) (Nat.le_of_ble_eq_true rfl) dX12_house_226
    · have e := iN c208 e
      refine a_ldc C ko_X12_160 dX12_house_176 ?_
      refine a_aload_n C dX12_house_178 rfl 0 rfl ?_
      obtain ⟨g229, e228, e⟩ := bA_some e
      refine a_getI C cb11 17 (by decide) fl_X12_90 rfl dX12_house_179 e228 ?_
      refine a_isub C dX12_house_182 ?_
      obtain ⟨rfl, rfl⟩ := sp2 e
      exact a_iret C q (Nat.le_of_ble_eq_true rfl) (Nat.le_of_ble_eq_true rfl) dX12_house_183
  have e := eb169
  refine a_if_ne (tgt := 155) C dX12_house_147 (by decide) (fun c166 => ?_) (fun c166 => ?_)
  · have e := iN c166 e
    obtain rfl := sp1 e
    exact a_widen (Nat.le_of_ble_eq_true rfl) (Nat.le_of_ble_eq_true rfl) (a_sub [0, 1] rfl jj168)
  · have e := ip c166 e
    refine a_aload_n C dX12_house_150 rfl 0 rfl ?_
    refine a_iconst (v := (1 : Int32)) C dX12_house_151 (by decide) ?_
    obtain ⟨u176, ec175, e⟩ := bA_some e
    obtain ⟨fs174, eo173⟩ := isC_some ec175
    obtain ⟨h170, e171, e⟩ := bA_some e
    refine a_callV (as := [.int (1 : Int32)]) (rest := []) C m_X12_bad im_X12_bad cb11 se_X12_X12_bad_X12_bad ml_X12_111 rfl (Nat.le_of_ble_eq_true rfl) (Nat.le_of_ble_eq_true rfl) (Nat.le_of_ble_eq_true rfl) (Nat.le_of_ble_eq_true rfl) (Nat.le_of_ble_eq_true rfl) dX12_house_152 eo173 (k_X12_bad e171) rfl ?_
    show AW G lo 0 0 155 [(0, .ref (lo + x0)), (1, .int y136)] [] h170
    obtain rfl := sp1 e
    exact a_widen (Nat.le_of_ble_eq_true rfl) (Nat.le_of_ble_eq_true rfl) (a_sub [0, 1] rfl jj168)
