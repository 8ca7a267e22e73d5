set_option maxRecDepth 100000 in
def f_X12_sets_L75 {β : Type} (k : Int32 → Int32 → Int32 → Hp → Option (β)) (x0 : Nat) (x1 : Int32) (x2 : Int32) (x3 : Int32) (x4 : Int32) (x5 : Int32) (x6 : Int32) : Nat → Hp → Int32 → Int32 → Int32 → Option (β)
  | 0, _, _, _, _ => none
  | fuel + 1, h, x7, x8, x9 => bA (gN h x0 11 5) fun a37 => bA (ald h a37 0 (1 : Int32)) fun v38 => (if v38 ≤ x9 then k x7 x8 x9 h else b2 (f_X12_has h x6 x9) fun r43 h41 => bA (if r43 = 0 then some (0 : Int32) else bA (gN h41 x0 11 5) fun a54 => bA (ald h41 a54 0 ((6 : Int32) + x9)) fun v55 => some v55) fun j50 => b2 (if x8 = 0 then some ((0 : Int32), h41) else b2 (f_X12_has h41 x6 x9) fun r64 h62 => (if r64 = 0 then some ((1 : Int32), h62) else bA (gN h62 x0 11 5) fun a72 => bA (ald h62 a72 0 ((6 : Int32) + x9)) fun v73 => (if v73 ≤ 0 then some ((0 : Int32), h62) else some ((1 : Int32), h62)))) fun j58 h59 => f_X12_sets_L75 k x0 x1 x2 x3 x4 x5 x6 fuel h59 (x7 + j50) j58 (x9 + (1 : Int32)))

set_option maxRecDepth 100000 in
def f_X12_sets_L53 {β : Type} (k : Int32 → Int32 → Int32 → Int32 → Hp → Option (β)) (x0 : Nat) (x1 : Int32) (x2 : Int32) : Nat → Hp → Int32 → Int32 → Int32 → Int32 → Option (β)
  | 0, _, _, _, _, _ => none
  | fuel + 1, h, x3, x4, x5, x6 => bA (gN h x0 11 5) fun a32 => bA (ald h a32 0 (1 : Int32)) fun v33 => (if ((1 : Int32) <<< (v33 &&& 31)) ≤ x6 then k x3 x4 x5 x6 h else f_X12_sets_L75 (fun y77 y78 y79 h76 => b3 (if y78 = 0 then some (x3, x4, x5) else (if y77 = x1 then bA (if x3 = 0 then some x6 else some (x4 &&& x6)) fun j88 => some ((x3 + (1 : Int32)), j88, (x5 ||| x6)) else some (x3, x4, x5))) fun j81 j82 j83 => f_X12_sets_L53 k x0 x1 x2 fuel h76 j81 j82 j83 (x6 + (1 : Int32))) x0 x1 x2 x3 x4 x5 x6 2000 h (0 : Int32) (1 : Int32) (0 : Int32))

set_option maxRecDepth 100000 in
def f_X12_sets (h : Hp) (x0 : Nat) (x1 : Int32) (x2 : Int32) : Option (Int32 × Hp) := bA (pV h x0 11 0 (.inl (0 : Int32))) fun h2 => bA (isC h2 x0 11) fun u9 => b2 (f_X12_isThere h2 x0 ) fun r5 h3 => (if r5 = 0 then some ((-1000002 : Int32), h3) else b2 (f_X12_in h3 x1.toInt64 (0 : Int64) (160 : Int64)) fun r15 h13 => (if r15 = 0 then some ((-1000001 : Int32), h13) else b2 (f_X12_in h13 x2.toInt64 (0 : Int64) (2 : Int64)) fun r24 h22 => (if r24 = 0 then some ((-1000001 : Int32), h22) else f_X12_sets_L53 (fun y92 y93 y94 y95 h91 => bA (if x2 = 0 then some y92 else (if x2 = (1 : Int32) then some y93 else some y94)) fun j97 => some (j97, h91)) x0 x1 x2 2000 h22 (0 : Int32) (0 : Int32) (0 : Int32) (0 : Int32))))

theorem m_X12_sets : MI yX12_sets cX12_sets 10 (some .int) 2 := ⟨co_X12_sets, ini_X12, by decide, by decide +kernel⟩
set_option maxRecDepth 100000 in
set_option maxHeartbeats 4000000 in
theorem w_X12_sets_L75 {G : Gm} {lo : Nat} {ce sl : Nat} (C : CX G lo cX12_sets RX12 (some .int) ({ frames := 1, cells := 0, slots := 0, locals := 25 } : Room) 10) {β : Type} {res : β} {k : Int32 → Int32 → Int32 → Hp → Option (β)} {x0 : Nat} {x1 : Int32} {x2 : Int32} {x3 : Int32} {x4 : Int32} {x5 : Int32} {x6 : Int32} (hk : ∀ (h : Hp) (x7 : Int32) (x8 : Int32) (x9 : Int32), k x7 x8 x9 h = some res → AW G lo ce sl 156 [(0, .ref (lo + x0)), (1, .int x1), (2, .int x2), (3, .int x3), (4, .int x4), (5, .int x5), (6, .int x6), (7, .int x7), (8, .int x8), (9, .int x9)] [] h) (hce : ce ≤ 0) (hsl : sl ≤ 0) : ∀ (fuel : Nat) (h : Hp) (x7 : Int32) (x8 : Int32) (x9 : Int32), f_X12_sets_L75 k x0 x1 x2 x3 x4 x5 x6 fuel h x7 x8 x9 = some res → AW G lo ce sl 75 [(0, .ref (lo + x0)), (1, .int x1), (2, .int x2), (3, .int x3), (4, .int x4), (5, .int x5), (6, .int x6), (7, .int x7), (8, .int x8), (9, .int x9)] [] h := by
  intro fuel
  induction fuel with
  | zero =>
    intro h x7 x8 x9 e
    cases (show (none : Option (β)) = some res from e)
  | succ fuel ih =>
    intro h x7 x8 x9 e
    rw [f_X12_sets_L75] at e
    refine a_iload C dX12_sets_75 9 rfl ?_
    refine a_aload_n C dX12_sets_77 rfl 0 rfl ?_
    obtain ⟨a37, e36, e⟩ := bA_some e
    refine a_getN C cb11 5 (by decide) fl_X12_19 rfl dX12_sets_78 e36 ?_
    refine a_iconst (v := (1 : Int32)) C dX12_sets_81 (by decide) ?_
    obtain ⟨v38, e39, e⟩ := bA_some e
    refine a_iald C dX12_sets_82 e39 ?_
    refine a_icmp_ge (tgt := 156) C dX12_sets_83 (by decide) (fun c40 => ?_) (fun c40 => ?_)
    · have e := ip c40 e
      exact a_sub [0, 1, 2, 3, 4, 5, 6, 7, 8, 9] rfl (hk _ _ _ _ e)
    · have e := iN c40 e
      refine a_iload C dX12_sets_86 7 rfl ?_
      refine a_iload C dX12_sets_88 6 rfl ?_
      refine a_iload C dX12_sets_90 9 rfl ?_
      obtain ⟨r43, h41, e42, e⟩ := b2_some e
      refine a_callS (as := [.int x6, .int x9]) (rest := [.int x7]) C m_X12_has sm_X12_has ml_X12_178 rfl (Nat.le_of_ble_eq_true rfl) (Nat.le_of_ble_eq_true rfl) (by exact hce) (by exact hsl) (Nat.le_of_ble_eq_true rfl) dX12_sets_92 (k_X12_has e42) rfl ?_
      show AW G lo ce sl 95 [(0, .ref (lo + x0)), (1, .int x1), (2, .int x2), (3, .int x3), (4, .int x4), (5, .int x5), (6, .int x6), (7, .int x7), (8, .int x8), (9, .int x9)] [.int r43, .int x7] h41
      obtain ⟨j50, eb52, e⟩ := bA_some e
      have jj51 : AW G lo ce sl 112 [(0, .ref (lo + x0)), (1, .int x1), (2, .int x2), (3, .int x3), (4, .int x4), (5, .int x5), (6, .int x6), (7, .int x7), (8, .int x8), (9, .int x9)] [.int j50, .int x7] h41 := by
        refine a_iadd C dX12_sets_112 ?_
        refine a_istore (lv2 := [(7, .int (x7 + j50)), (0, .ref (lo + x0)), (1, .int x1), (2, .int x2), (3, .int x3), (4, .int x4), (5, .int x5), (6, .int x6), (8, .int x8), (9, .int x9)]) C dX12_sets_113 (by decide) rfl ?_
        refine a_iload C dX12_sets_115 8 rfl ?_
        obtain ⟨j58, h59, eb61, e⟩ := b2_some e
        have jj60 : AW G lo ce sl 148 [(0, .ref (lo + x0)), (1, .int x1), (2, .int x2), (3, .int x3), (4, .int x4), (5, .int x5), (6, .int x6), (7, .int (x7 + j50)), (8, .int x8), (9, .int x9)] [.int j58] h59 := by
          refine a_istore (lv2 := [(8, .int j58), (0, .ref (lo + x0)), (1, .int x1), (2, .int x2), (3, .int x3), (4, .int x4), (5, .int x5), (6, .int x6), (7, .int (x7 + j50)), (9, .int x9)]) C dX12_sets_148 (by decide) rfl ?_
          refine a_iinc (v := x9 + (1 : Int32)) (lv2 := [(9, .int (x9 + (1 : Int32))), (8, .int j58), (0, .ref (lo + x0)), (1, .int x1), (2, .int x2), (3, .int x3), (4, .int x4), (5, .int x5), (6, .int x6), (7, .int (x7 + j50))]) C dX12_sets_150 9 rfl rfl (by decide) rfl ?_
          refine a_goto (tgt := 75) C dX12_sets_153 (by decide) ?_
          exact a_sub [2, 3, 4, 5, 6, 7, 8, 9, 1, 0] rfl (ih _ _ _ _ e)
        have e := eb61
        refine a_if_eq (tgt := 147) C dX12_sets_117 (by decide) (fun c57 => ?_) (fun c57 => ?_)
        · have e := ip c57 e
          refine a_iconst (v := (0 : Int32)) C dX12_sets_147 (by decide) ?_
          obtain ⟨rfl, rfl⟩ := sp2 e
          exact a_widen (Nat.le_refl _) (Nat.le_refl _) (a_sub [1, 2, 3, 4, 5, 6, 7, 0, 8, 9] rfl jj60)
        · have e := iN c57 e
          refine a_iload C dX12_sets_120 7 rfl ?_
          refine a_iload C dX12_sets_122 9 rfl ?_
          obtain ⟨r64, h62, e63, e⟩ := b2_some e
          refine a_callS (as := [.int x6, .int x9]) (rest := []) C m_X12_has sm_X12_has ml_X12_178 rfl (Nat.le_of_ble_eq_true rfl) (Nat.le_of_ble_eq_true rfl) (by exact hce) (by exact hsl) (Nat.le_of_ble_eq_true rfl) dX12_sets_124 (k_X12_has e63) rfl ?_
          show AW G lo ce sl 127 [(7, .int (x7 + j50)), (0, .ref (lo + x0)), (1, .int x1), (2, .int x2), (3, .int x3), (4, .int x4), (5, .int x5), (6, .int x6), (8, .int x8), (9, .int x9)] [.int r64] h62
          refine a_if_eq (tgt := 143) C dX12_sets_127 (by decide) (fun c70 => ?_) (fun c70 => ?_)
          · have e := ip c70 e
            refine a_iconst (v := (1 : Int32)) C dX12_sets_143 (by decide) ?_
            refine a_goto (tgt := 148) C dX12_sets_144 (by decide) ?_
            obtain ⟨rfl, rfl⟩ := sp2 e
            exact a_widen (Nat.le_refl _) (Nat.le_refl _) (a_sub [1, 2, 3, 4, 5, 6, 7, 0, 8, 9] rfl jj60)
          · have e := iN c70 e
            refine a_aload_n C dX12_sets_130 rfl 1 rfl ?_
            obtain ⟨a72, e71, e⟩ := bA_some e
            refine a_getN C cb11 5 (by decide) fl_X12_19 rfl dX12_sets_131 e71 ?_
            refine a_bipush (v := (6 : Int32)) C dX12_sets_134 (by decide) ?_
            refine a_iload C dX12_sets_136 9 rfl ?_
            refine a_iadd C dX12_sets_138 ?_
            obtain ⟨v73, e74, e⟩ := bA_some e
            refine a_iald C dX12_sets_139 e74 ?_
            refine a_if_le (tgt := 147) C dX12_sets_140 (by decide) (fun c75 => ?_) (fun c75 => ?_)
            · have e := ip c75 e
              refine a_iconst (v := (0 : Int32)) C dX12_sets_147 (by decide) ?_
              obtain ⟨rfl, rfl⟩ := sp2 e
              exact a_widen (Nat.le_refl _) (Nat.le_refl _) (a_sub [1, 2, 3, 4, 5, 6, 7, 0, 8, 9] rfl jj60)
            · have e := iN c75 e
              refine a_iconst (v := (1 : Int32)) C dX12_sets_143 (by decide) ?_
              refine a_goto (tgt := 148) C dX12_sets_144 (by decide) ?_
              obtain ⟨rfl, rfl⟩ := sp2 e
              exact a_widen (Nat.le_refl _) (Nat.le_refl _) (a_sub [1, 2, 3, 4, 5, 6, 7, 0, 8, 9] rfl jj60)
      have e := eb52
      refine a_if_eq (tgt := 111) C dX12_sets_95 (by decide) (fun c49 => ?_) (fun c49 => ?_)
      · have e := ip c49 e
        refine a_iconst (v := (0 : Int32)) C dX12_sets_111 (by decide) ?_
        obtain rfl := sp1 e
        exact a_widen (Nat.le_refl _) (Nat.le_refl _) (a_sub [0, 1, 2, 3, 4, 5, 6, 7, 8, 9] rfl jj51)
      · have e := iN c49 e
        refine a_aload_n C dX12_sets_98 rfl 0 rfl ?_
        obtain ⟨a54, e53, e⟩ := bA_some e
        refine a_getN C cb11 5 (by decide) fl_X12_19 rfl dX12_sets_99 e53 ?_
        refine a_bipush (v := (6 : Int32)) C dX12_sets_102 (by decide) ?_
        refine a_iload C dX12_sets_104 9 rfl ?_
        refine a_iadd C dX12_sets_106 ?_
        obtain ⟨v55, e56, e⟩ := bA_some e
        refine a_iald C dX12_sets_107 e56 ?_
        refine a_goto (tgt := 112) C dX12_sets_108 (by decide) ?_
        obtain rfl := sp1 e
        exact a_widen (Nat.le_refl _) (Nat.le_refl _) (a_sub [0, 1, 2, 3, 4, 5, 6, 7, 8, 9] rfl jj51)
set_option maxRecDepth 100000 in
set_option maxHeartbeats 4000000 in
theorem w_X12_sets_L53 {G : Gm} {lo : Nat} {ce sl : Nat} (C : CX G lo cX12_sets RX12 (some .int) ({ frames := 1, cells := 0, slots := 0, locals := 25 } : Room) 10) {β : Type} {res : β} {k : Int32 → Int32 → Int32 → Int32 → Hp → Option (β)} {x0 : Nat} {x1 : Int32} {x2 : Int32} (hk : ∀ (h : Hp) (x3 : Int32) (x4 : Int32) (x5 : Int32) (x6 : Int32), k x3 x4 x5 x6 h = some res → AW G lo ce sl 199 [(0, .ref (lo + x0)), (1, .int x1), (2, .int x2), (3, .int x3), (4, .int x4), (5, .int x5), (6, .int x6)] [] h) (hce : ce ≤ 0) (hsl : sl ≤ 0) : ∀ (fuel : Nat) (h : Hp) (x3 : Int32) (x4 : Int32) (x5 : Int32) (x6 : Int32), f_X12_sets_L53 k x0 x1 x2 fuel h x3 x4 x5 x6 = some res → AW G lo ce sl 53 [(0, .ref (lo + x0)), (1, .int x1), (2, .int x2), (3, .int x3), (4, .int x4), (5, .int x5), (6, .int x6)] [] h := by
  intro fuel
  induction fuel with
  | zero =>
    intro h x3 x4 x5 x6 e
    cases (show (none : Option (β)) = some res from e)
  | succ fuel ih =>
    intro h x3 x4 x5 x6 e
    rw [f_X12_sets_L53] at e
    refine a_iload C dX12_sets_53 6 rfl ?_
    refine a_iconst (v := (1 : Int32)) C dX12_sets_55 (by decide) ?_
    refine a_aload_n C dX12_sets_56 rfl 0 rfl ?_
    obtain ⟨a32, e31, e⟩ := bA_some e
    refine a_getN C cb11 5 (by decide) fl_X12_19 rfl dX12_sets_57 e31 ?_
    refine a_iconst (v := (1 : Int32)) C dX12_sets_60 (by decide) ?_
    obtain ⟨v33, e34, e⟩ := bA_some e
    refine a_iald C dX12_sets_61 e34 ?_
    refine a_ishl C dX12_sets_62 ?_
    refine a_icmp_ge (tgt := 199) C dX12_sets_63 (by decide) (fun c35 => ?_) (fun c35 => ?_)
    · have e := ip c35 e
      exact a_sub [0, 1, 2, 3, 4, 5, 6] rfl (hk _ _ _ _ _ e)
    · have e := iN c35 e
      refine a_iconst (v := (0 : Int32)) C dX12_sets_66 (by decide) ?_
      refine a_istore (lv2 := [(7, .int (0 : Int32)), (0, .ref (lo + x0)), (1, .int x1), (2, .int x2), (3, .int x3), (4, .int x4), (5, .int x5), (6, .int x6)]) C dX12_sets_67 (by decide) rfl ?_
      refine a_iconst (v := (1 : Int32)) C dX12_sets_69 (by decide) ?_
      refine a_istore (lv2 := [(8, .int (1 : Int32)), (7, .int (0 : Int32)), (0, .ref (lo + x0)), (1, .int x1), (2, .int x2), (3, .int x3), (4, .int x4), (5, .int x5), (6, .int x6)]) C dX12_sets_70 (by decide) rfl ?_
      refine a_iconst (v := (0 : Int32)) C dX12_sets_72 (by decide) ?_
      refine a_istore (lv2 := [(9, .int (0 : Int32)), (8, .int (1 : Int32)), (7, .int (0 : Int32)), (0, .ref (lo + x0)), (1, .int x1), (2, .int x2), (3, .int x3), (4, .int x4), (5, .int x5), (6, .int x6)]) C dX12_sets_73 (by decide) rfl ?_
      refine a_sub [3, 4, 5, 6, 7, 8, 9, 2, 1, 0] rfl (w_X12_sets_L75 C ?_ (by exact hce) (by exact hsl) 2000 _ _ _ _ e)
      intro h76 y77 y78 y79 e
      show AW G lo ce sl 156 [(0, .ref (lo + x0)), (1, .int x1), (2, .int x2), (3, .int x3), (4, .int x4), (5, .int x5), (6, .int x6), (7, .int y77), (8, .int y78), (9, .int y79)] [] h76
      refine a_iload C dX12_sets_156 8 rfl ?_
      obtain ⟨j81, j82, j83, eb85, e⟩ := b3_some e
      have jj84 : AW G lo ce sl 193 [(0, .ref (lo + x0)), (1, .int x1), (2, .int x2), (3, .int j81), (4, .int j82), (5, .int j83), (6, .int x6), (7, .int y77), (8, .int y78), (9, .int y79)] [] h76 := by
        refine a_iinc (v := x6 + (1 : Int32)) (lv2 := [(6, .int (x6 + (1 : Int32))), (0, .ref (lo + x0)), (1, .int x1), (2, .int x2), (3, .int j81), (4, .int j82), (5, .int j83), (7, .int y77), (8, .int y78), (9, .int y79)]) C dX12_sets_193 6 rfl rfl (by decide) rfl ?_
        refine a_goto (tgt := 53) C dX12_sets_196 (by decide) ?_
        exact a_sub [1, 2, 3, 4, 5, 6, 0] rfl (ih _ _ _ _ _ e)
      have e := eb85
      refine a_if_eq (tgt := 193) C dX12_sets_158 (by decide) (fun c80 => ?_) (fun c80 => ?_)
      · have e := ip c80 e
        obtain ⟨rfl, rfl, rfl⟩ := sp3 e
        exact a_widen (Nat.le_refl _) (Nat.le_refl _) (a_sub [0, 1, 2, 3, 4, 5, 6, 7, 8, 9] rfl jj84)
      · have e := iN c80 e
        refine a_iload C dX12_sets_161 7 rfl ?_
        refine a_iload_n C dX12_sets_163 rfl 1 rfl ?_
        refine a_icmp_ne (tgt := 193) C dX12_sets_164 (by decide) (fun c86 => ?_) (fun c86 => ?_)
        · have e := iN c86 e
          obtain ⟨rfl, rfl, rfl⟩ := sp3 e
          exact a_widen (Nat.le_refl _) (Nat.le_refl _) (a_sub [0, 1, 2, 3, 4, 5, 6, 7, 8, 9] rfl jj84)
        · have e := ip c86 e
          refine a_iload_n C dX12_sets_167 rfl 3 rfl ?_
          obtain ⟨j88, eb90, e⟩ := bA_some e
          have jj89 : AW G lo ce sl 181 [(0, .ref (lo + x0)), (1, .int x1), (2, .int x2), (3, .int x3), (4, .int x4), (5, .int x5), (6, .int x6), (7, .int y77), (8, .int y78), (9, .int y79)] [.int j88] h76 := by
            refine a_istore (lv2 := [(4, .int j88), (0, .ref (lo + x0)), (1, .int x1), (2, .int x2), (3, .int x3), (5, .int x5), (6, .int x6), (7, .int y77), (8, .int y78), (9, .int y79)]) C dX12_sets_181 (by decide) rfl ?_
            refine a_iload C dX12_sets_183 5 rfl ?_
            refine a_iload C dX12_sets_185 6 rfl ?_
            refine a_ior C dX12_sets_187 ?_
            refine a_istore (lv2 := [(5, .int (x5 ||| x6)), (4, .int j88), (0, .ref (lo + x0)), (1, .int x1), (2, .int x2), (3, .int x3), (6, .int x6), (7, .int y77), (8, .int y78), (9, .int y79)]) C dX12_sets_188 (by decide) rfl ?_
            refine a_iinc (v := x3 + (1 : Int32)) (lv2 := [(3, .int (x3 + (1 : Int32))), (5, .int (x5 ||| x6)), (4, .int j88), (0, .ref (lo + x0)), (1, .int x1), (2, .int x2), (6, .int x6), (7, .int y77), (8, .int y78), (9, .int y79)]) C dX12_sets_190 5 rfl rfl (by decide) rfl ?_
            obtain ⟨rfl, rfl, rfl⟩ := sp3 e
            exact a_widen (Nat.le_refl _) (Nat.le_refl _) (a_sub [3, 4, 5, 0, 2, 1, 6, 7, 8, 9] rfl jj84)
          have e := eb90
          refine a_if_ne (tgt := 176) C dX12_sets_168 (by decide) (fun c87 => ?_) (fun c87 => ?_)
          · have e := iN c87 e
            refine a_iload C dX12_sets_176 4 rfl ?_
            refine a_iload C dX12_sets_178 6 rfl ?_
            refine a_iand C dX12_sets_180 ?_
            obtain rfl := sp1 e
            exact a_widen (Nat.le_refl _) (Nat.le_refl _) (a_sub [0, 1, 2, 3, 4, 5, 6, 7, 8, 9] rfl jj89)
          · have e := ip c87 e
            refine a_iload C dX12_sets_171 6 rfl ?_
            refine a_goto (tgt := 181) C dX12_sets_173 (by decide) ?_
            obtain rfl := sp1 e
            exact a_widen (Nat.le_refl _) (Nat.le_refl _) (a_sub [0, 1, 2, 3, 4, 5, 6, 7, 8, 9] rfl jj89)
set_option maxRecDepth 100000 in
set_option maxHeartbeats 4000000 in
theorem k_X12_sets {lo : Nat} {h : Hp} {x0 : Nat} {x1 : Int32} {x2 : Int32} {r : Int32} {h' : Hp} (e : f_X12_sets h x0 x1 x2 = some (r, h')) : ∀ l d, AC l d lo yX12_sets cX12_sets 10 (some .int) ({ frames := 1, cells := 0, slots := 0, locals := 25 } : Room) [.ref (lo + x0), .int x1, .int x2] h (some (.int r)) h' := by
  intro l d
  refine AC_of (by decide) (Nat.le_of_ble_eq_true rfl) ?_
  intro G C _ _ q
  unfold f_X12_sets at e
  show AW G lo 0 0 0 [(0, .ref (lo + x0)), (1, .int x1), (2, .int x2)] [] h
  refine a_aload_n C dX12_sets_0 rfl 0 rfl ?_
  refine a_iconst (v := (0 : Int32)) C dX12_sets_1 (by decide) ?_
  obtain ⟨h2, e1, e⟩ := bA_some e
  refine a_putI C cb11 0 (by decide) fl_X12_53 rfl (by decide +kernel) dX12_sets_2 e1 ?_
  refine a_aload_n C dX12_sets_5 rfl 0 rfl ?_
  obtain ⟨u9, ec8, e⟩ := bA_some e
  obtain ⟨fs7, eo6⟩ := isC_some ec8
  obtain ⟨r5, h3, e4, e⟩ := b2_some e
  refine a_callV (as := []) (rest := []) C m_X12_isThere im_X12_isThere cb11 se_X12_X12_isThere_X12_isThere ml_X12_216 rfl (Nat.le_of_ble_eq_true rfl) (Nat.le_of_ble_eq_true rfl) (Nat.le_of_ble_eq_true rfl) (Nat.le_of_ble_eq_true rfl) (Nat.le_of_ble_eq_true rfl) dX12_sets_6 eo6 (k_X12_isThere e4) rfl ?_
  show AW G lo 0 0 9 [(0, .ref (lo + x0)), (1, .int x1), (2, .int x2)] [.int r5] h3
  refine a_if_ne (tgt := 15) C dX12_sets_9 (by decide) (fun c12 => ?_) (fun c12 => ?_)
  · have e := iN c12 e
    refine a_iload_n C dX12_sets_15 rfl 1 rfl ?_
    refine a_i2l C dX12_sets_16 ?_
    refine a_lconst (v := (0 : Int64)) C dX12_sets_17 (by decide) ?_
    refine a_ldc2 C kL_X12_270 dX12_sets_18 ?_
    obtain ⟨r15, h13, e14, e⟩ := b2_some e
    refine a_callS (as := [.long x1.toInt64, .long (0 : Int64), .long (160 : Int64)]) (rest := []) C m_X12_in sm_X12_in ml_X12_63 rfl (Nat.le_of_ble_eq_true rfl) (Nat.le_of_ble_eq_true rfl) (Nat.le_of_ble_eq_true rfl) (Nat.le_of_ble_eq_true rfl) (Nat.le_of_ble_eq_true rfl) dX12_sets_21 (k_X12_in e14) rfl ?_
    show AW G lo 0 0 24 [(0, .ref (lo + x0)), (1, .int x1), (2, .int x2)] [.int r15] h13
    refine a_if_eq (tgt := 39) C dX12_sets_24 (by decide) (fun c21 => ?_) (fun c21 => ?_)
    · have e := ip c21 e
      refine a_ldc C ko_X12_73 dX12_sets_39 ?_
      obtain ⟨rfl, rfl⟩ := sp2 e
      exact a_iret C q (Nat.le_of_ble_eq_true rfl) (Nat.le_of_ble_eq_true rfl) dX12_sets_41
    · have e := iN c21 e
      refine a_iload_n C dX12_sets_27 rfl 2 rfl ?_
      refine a_i2l C dX12_sets_28 ?_
      refine a_lconst (v := (0 : Int64)) C dX12_sets_29 (by decide) ?_
      refine a_ldc2 C kL_X12_71 dX12_sets_30 ?_
      obtain ⟨r24, h22, e23, e⟩ := b2_some e
      refine a_callS (as := [.long x2.toInt64, .long (0 : Int64), .long (2 : Int64)]) (rest := []) C m_X12_in sm_X12_in ml_X12_63 rfl (Nat.le_of_ble_eq_true rfl) (Nat.le_of_ble_eq_true rfl) (Nat.le_of_ble_eq_true rfl) (Nat.le_of_ble_eq_true rfl) (Nat.le_of_ble_eq_true rfl) dX12_sets_33 (k_X12_in e23) rfl ?_
      show AW G lo 0 0 36 [(0, .ref (lo + x0)), (1, .int x1), (2, .int x2)] [.int r24] h22
      refine a_if_ne (tgt := 42) C dX12_sets_36 (by decide) (fun c30 => ?_) (fun c30 => ?_)
      · have e := iN c30 e
        refine a_iconst (v := (0 : Int32)) C dX12_sets_42 (by decide) ?_
        refine a_istore_n (lv2 := [(3, .int (0 : Int32)), (0, .ref (lo + x0)), (1, .int x1), (2, .int x2)]) C dX12_sets_43 rfl (by decide) rfl ?_
        refine a_iconst (v := (0 : Int32)) C dX12_sets_44 (by decide) ?_
        refine a_istore (lv2 := [(4, .int (0 : Int32)), (3, .int (0 : Int32)), (0, .ref (lo + x0)), (1, .int x1), (2, .int x2)]) C dX12_sets_45 (by decide) rfl ?_
        refine a_iconst (v := (0 : Int32)) C dX12_sets_47 (by decide) ?_
        refine a_istore (lv2 := [(5, .int (0 : Int32)), (4, .int (0 : Int32)), (3, .int (0 : Int32)), (0, .ref (lo + x0)), (1, .int x1), (2, .int x2)]) C dX12_sets_48 (by decide) rfl ?_
        refine a_iconst (v := (0 : Int32)) C dX12_sets_50 (by decide) ?_
        refine a_istore (lv2 := [(6, .int (0 : Int32)), (5, .int (0 : Int32)), (4, .int (0 : Int32)), (3, .int (0 : Int32)), (0, .ref (lo + x0)), (1, .int x1), (2, .int x2)]) C dX12_sets_51 (by decide) rfl ?_
        refine a_sub [4, 5, 6, 3, 2, 1, 0] rfl (w_X12_sets_L53 C ?_ (Nat.le_of_ble_eq_true rfl) (Nat.le_of_ble_eq_true rfl) 2000 _ _ _ _ _ e)
        intro h91 y92 y93 y94 y95 e
        show AW G lo 0 0 199 [(0, .ref (lo + x0)), (1, .int x1), (2, .int x2), (3, .int y92), (4, .int y93), (5, .int y94), (6, .int y95)] [] h91
        refine a_iload_n C dX12_sets_199 rfl 2 rfl ?_
        obtain ⟨j97, eb99, e⟩ := bA_some e
        have jj98 : AW G lo 0 0 219 [(0, .ref (lo + x0)), (1, .int x1), (2, .int x2), (3, .int y92), (4, .int y93), (5, .int y94), (6, .int y95)] [.int j97] h91 := by
          obtain ⟨rfl, rfl⟩ := sp2 e
          exact a_iret C q (Nat.le_of_ble_eq_true rfl) (Nat.le_of_ble_eq_true rfl) dX12_sets_219
        have e := eb99
        refine a_if_ne (tgt := 207) C dX12_sets_200 (by decide) (fun c96 => ?_) (fun c96 => ?_)
        · have e := iN c96 e
          refine a_iload_n C dX12_sets_207 rfl 2 rfl ?_
          refine a_iconst (v := (1 : Int32)) C dX12_sets_208 (by decide) ?_
          refine a_icmp_ne (tgt := 217) C dX12_sets_209 (by decide) (fun c100 => ?_) (fun c100 => ?_)
          · have e := iN c100 e
            refine a_iload C dX12_sets_217 5 rfl ?_
            obtain rfl := sp1 e
            exact a_widen (Nat.le_of_ble_eq_true rfl) (Nat.le_of_ble_eq_true rfl) (a_sub [0, 1, 2, 3, 4, 5, 6] rfl jj98)
          · have e := ip c100 e
            refine a_iload C dX12_sets_212 4 rfl ?_
            refine a_goto (tgt := 219) C dX12_sets_214 (by decide) ?_
            obtain rfl := sp1 e
            exact a_widen (Nat.le_of_ble_eq_true rfl) (Nat.le_of_ble_eq_true rfl) (a_sub [0, 1, 2, 3, 4, 5, 6] rfl jj98)
        · have e := ip c96 e
          refine a_iload_n C dX12_sets_203 rfl 3 rfl ?_
          refine a_goto (tgt := 219) C dX12_sets_204 (by decide) ?_
          obtain rfl := sp1 e
          exact a_widen (Nat.le_of_ble_eq_true rfl) (Nat.le_of_ble_eq_true rfl) (a_sub [0, 1, 2, 3, 4, 5, 6] rfl jj98)
      · have e := ip c30 e
        refine a_ldc C ko_X12_73 dX12_sets_39 ?_
        obtain ⟨rfl, rfl⟩ := sp2 e
        exact a_iret C q (Nat.le_of_ble_eq_true rfl) (Nat.le_of_ble_eq_true rfl) dX12_sets_41
  · have e := ip c12 e
    refine a_ldc C ko_X12_219 dX12_sets_12 ?_
    obtain ⟨rfl, rfl⟩ := sp2 e
    exact a_iret C q (Nat.le_of_ble_eq_true rfl) (Nat.le_of_ble_eq_true rfl) dX12_sets_14

set_option maxRecDepth 100000 in
def f_X12_share_L63 {β : Type} (k : Int32 → Int32 → Int32 → Hp → Option (β)) (x0 : Nat) (x1 : Int32) (x2 : Int32) (x3 : Int32) (x4 : Int32) : Nat → Hp → Int32 → Int32 → Int32 → Option (β)
  | 0, _, _, _, _ => none
  | fuel + 1, h, x5, x6, x7 => bA (gN h x0 11 5) fun a38 => bA (ald h a38 0 (1 : Int32)) fun v39 => (if v39 ≤ x7 then k x5 x6 x7 h else bA (gN h x0 11 5) fun a43 => bA (ald h a43 0 ((6 : Int32) + x7)) fun v44 => bA (nzI x3) fun u47 => bA (if x1 ≤ x7 then some (0 : Int32) else bA (gN h x0 11 5) fun a53 => bA (ald h a53 0 ((6 : Int32) + x7)) fun v54 => (if v54 ≤ 0 then some (0 : Int32) else some (1 : Int32))) fun j49 => f_X12_share_L63 k x0 x1 x2 x3 x4 fuel h (x5 - ((x2 * v44) / x3)) (x6 + j49) (x7 + (1 : Int32)))

set_option maxRecDepth 100000 in
def f_X12_share (h : Hp) (x0 : Nat) (x1 : Int32) (x2 : Int32) : Option (Int32 × Hp) := bA (pV h x0 11 0 (.inl (0 : Int32))) fun h2 => bA (isC h2 x0 11) fun u9 => b2 (f_X12_isRoom h2 x0 x1) fun r5 h3 => (if r5 = 0 then some ((-1000001 : Int32), h3) else b2 (f_X12_in h3 x2.toInt64 (0 : Int64) (999 : Int64)) fun r15 h13 => (if r15 = 0 then some ((-1000001 : Int32), h13) else bA (gN h13 x0 11 5) fun a23 => b2 (f_X12_weightOf h13 a23) fun r26 h24 => bA (gN h24 x0 11 5) fun a33 => bA (ald h24 a33 0 ((6 : Int32) + x1)) fun v34 => (if v34 = 0 then some ((0 : Int32), h24) else f_X12_share_L63 (fun y58 y59 y60 h57 => bA (nzI r26) fun u62 => bA (if y58 ≤ y59 then some (0 : Int32) else some (1 : Int32)) fun j64 => some ((((x2 * v34) / r26) + j64), h57)) x0 x1 x2 r26 v34 2000 h24 x2 (0 : Int32) (0 : Int32))))

theorem m_X12_share : MI yX12_share cX12_share 8 (some .int) 2 := ⟨co_X12_share, ini_X12, by decide, by decide +kernel⟩
set_option maxRecDepth 100000 in
set_option maxHeartbeats 4000000 in
theorem w_X12_share_L63 {G : Gm} {lo : Nat} {ce sl : Nat} (C : CX G lo cX12_share RX12 (some .int) ({ frames := 2, cells := 0, slots := 0, locals := 46 } : Room) 8) {β : Type} {res : β} {k : Int32 → Int32 → Int32 → Hp → Option (β)} {x0 : Nat} {x1 : Int32} {x2 : Int32} {x3 : Int32} {x4 : Int32} (hk : ∀ (h : Hp) (x5 : Int32) (x6 : Int32) (x7 : Int32), k x5 x6 x7 h = some res → AW G lo ce sl 128 [(0, .ref (lo + x0)), (1, .int x1), (2, .int x2), (3, .int x3), (4, .int x4), (5, .int x5), (6, .int x6), (7, .int x7)] [] h) (hce : ce ≤ 0) (hsl : sl ≤ 0) : ∀ (fuel : Nat) (h : Hp) (x5 : Int32) (x6 : Int32) (x7 : Int32), f_X12_share_L63 k x0 x1 x2 x3 x4 fuel h x5 x6 x7 = some res → AW G lo ce sl 63 [(0, .ref (lo + x0)), (1, .int x1), (2, .int x2), (3, .int x3), (4, .int x4), (5, .int x5), (6, .int x6), (7, .int x7)] [] h := by
  intro fuel
  induction fuel with
  | zero =>
    intro h x5 x6 x7 e
    cases (show (none : Option (β)) = some res from e)
  | succ fuel ih =>
    intro h x5 x6 x7 e
    rw [f_X12_share_L63] at e
    refine a_iload C dX12_share_63 7 rfl ?_
    refine a_aload_n C dX12_share_65 rfl 0 rfl ?_
    obtain ⟨a38, e37, e⟩ := bA_some e
    refine a_getN C cb11 5 (by decide) fl_X12_19 rfl dX12_share_66 e37 ?_
    refine a_iconst (v := (1 : Int32)) C dX12_share_69 (by decide) ?_
    obtain ⟨v39, e40, e⟩ := bA_some e
    refine a_iald C dX12_share_70 e40 ?_
    refine a_icmp_ge (tgt := 128) C dX12_share_71 (by decide) (fun c41 => ?_) (fun c41 => ?_)
    · have e := ip c41 e
      exact a_sub [0, 1, 2, 3, 4, 5, 6, 7] rfl (hk _ _ _ _ e)
    · have e := iN c41 e
      refine a_iload C dX12_share_74 5 rfl ?_
      refine a_iload_n C dX12_share_76 rfl 2 rfl ?_
      refine a_aload_n C dX12_share_77 rfl 0 rfl ?_
      obtain ⟨a43, e42, e⟩ := bA_some e
      refine a_getN C cb11 5 (by decide) fl_X12_19 rfl dX12_share_78 e42 ?_
      refine a_bipush (v := (6 : Int32)) C dX12_share_81 (by decide) ?_
      refine a_iload C dX12_share_83 7 rfl ?_
      refine a_iadd C dX12_share_85 ?_
      obtain ⟨v44, e45, e⟩ := bA_some e
      refine a_iald C dX12_share_86 e45 ?_
      refine a_imul C dX12_share_87 ?_
      refine a_iload_n C dX12_share_88 rfl 3 rfl ?_
      obtain ⟨u47, ez46, e⟩ := bA_some e
      refine a_idiv C dX12_share_89 (nzI_some ez46) ?_
      refine a_isub C dX12_share_90 ?_
      refine a_istore (lv2 := [(5, .int (x5 - ((x2 * v44) / x3))), (0, .ref (lo + x0)), (1, .int x1), (2, .int x2), (3, .int x3), (4, .int x4), (6, .int x6), (7, .int x7)]) C dX12_share_91 (by decide) rfl ?_
      refine a_iload C dX12_share_93 6 rfl ?_
      refine a_iload C dX12_share_95 7 rfl ?_
      refine a_iload_n C dX12_share_97 rfl 2 rfl ?_
      obtain ⟨j49, eb51, e⟩ := bA_some e
      have jj50 : AW G lo ce sl 119 [(0, .ref (lo + x0)), (1, .int x1), (2, .int x2), (3, .int x3), (4, .int x4), (5, .int (x5 - ((x2 * v44) / x3))), (6, .int x6), (7, .int x7)] [.int j49, .int x6] h := by
        refine a_iadd C dX12_share_119 ?_
        refine a_istore (lv2 := [(6, .int (x6 + j49)), (0, .ref (lo + x0)), (1, .int x1), (2, .int x2), (3, .int x3), (4, .int x4), (5, .int (x5 - ((x2 * v44) / x3))), (7, .int x7)]) C dX12_share_120 (by decide) rfl ?_
        refine a_iinc (v := x7 + (1 : Int32)) (lv2 := [(7, .int (x7 + (1 : Int32))), (6, .int (x6 + j49)), (0, .ref (lo + x0)), (1, .int x1), (2, .int x2), (3, .int x3), (4, .int x4), (5, .int (x5 - ((x2 * v44) / x3)))]) C dX12_share_122 7 rfl rfl (by decide) rfl ?_
        refine a_goto (tgt := 63) C dX12_share_125 (by decide) ?_
        exact a_sub [2, 3, 4, 5, 6, 7, 1, 0] rfl (ih _ _ _ _ e)
      have e := eb51
      refine a_icmp_ge (tgt := 118) C dX12_share_98 (by decide) (fun c48 => ?_) (fun c48 => ?_)
      · have e := ip c48 e
        refine a_iconst (v := (0 : Int32)) C dX12_share_118 (by decide) ?_
        obtain rfl := sp1 e
        exact a_widen (Nat.le_refl _) (Nat.le_refl _) (a_sub [1, 2, 3, 4, 5, 0, 6, 7] rfl jj50)
      · have e := iN c48 e
        refine a_aload_n C dX12_share_101 rfl 1 rfl ?_
        obtain ⟨a53, e52, e⟩ := bA_some e
        refine a_getN C cb11 5 (by decide) fl_X12_19 rfl dX12_share_102 e52 ?_
        refine a_bipush (v := (6 : Int32)) C dX12_share_105 (by decide) ?_
        refine a_iload C dX12_share_107 7 rfl ?_
        refine a_iadd C dX12_share_109 ?_
        obtain ⟨v54, e55, e⟩ := bA_some e
        refine a_iald C dX12_share_110 e55 ?_
        refine a_if_le (tgt := 118) C dX12_share_111 (by decide) (fun c56 => ?_) (fun c56 => ?_)
        · have e := ip c56 e
          refine a_iconst (v := (0 : Int32)) C dX12_share_118 (by decide) ?_
          obtain rfl := sp1 e
          exact a_widen (Nat.le_refl _) (Nat.le_refl _) (a_sub [1, 2, 3, 4, 5, 0, 6, 7] rfl jj50)
        · have e := iN c56 e
          refine a_iconst (v := (1 : Int32)) C dX12_share_114 (by decide) ?_
          refine a_goto (tgt := 119) C dX12_share_115 (by decide) ?_
          obtain rfl := sp1 e
          exact a_widen (Nat.le_refl _) (Nat.le_refl _) (a_sub [1, 2, 3, 4, 5, 0, 6, 7] rfl jj50)
set_option maxRecDepth 100000 in
set_option maxHeartbeats 4000000 in
theorem k_X12_share {lo : Nat} {h : Hp} {x0 : Nat} {x1 : Int32} {x2 : Int32} {r : Int32} {h' : Hp} (e : f_X12_share h x0 x1 x2 = some (r, h')) : ∀ l d, AC l d lo yX12_share cX12_share 8 (some .int) ({ frames := 2, cells := 0, slots := 0, locals := 46 } : Room) [.ref (lo + x0), .int x1, .int x2] h (some (.int r)) h' := by
  intro l d
  refine AC_of (by decide) (Nat.le_of_ble_eq_true rfl) ?_
  intro G C _ _ q
  unfold f_X12_share at e
  show AW G lo 0 0 0 [(0, .ref (lo + x0)), (1, .int x1), (2, .int x2)] [] h
  refine a_aload_n C dX12_share_0 rfl 0 rfl ?_
  refine a_iconst (v := (0 : Int32)) C dX12_share_1 (by decide) ?_
  obtain ⟨h2, e1, e⟩ := bA_some e
  refine a_putI C cb11 0 (by decide) fl_X12_53 rfl (by decide +kernel) dX12_share_2 e1 ?_
  refine a_aload_n C dX12_share_5 rfl 0 rfl ?_
  refine a_iload_n C dX12_share_6 rfl 1 rfl ?_
  obtain ⟨u9, ec8, e⟩ := bA_some e
  obtain ⟨fs7, eo6⟩ := isC_some ec8
  obtain ⟨r5, h3, e4, e⟩ := b2_some e
  refine a_callV (as := [.int x1]) (rest := []) C m_X12_isRoom im_X12_isRoom cb11 se_X12_X12_isRoom_X12_isRoom ml_X12_239 rfl (Nat.le_of_ble_eq_true rfl) (Nat.le_of_ble_eq_true rfl) (Nat.le_of_ble_eq_true rfl) (Nat.le_of_ble_eq_true rfl) (Nat.le_of_ble_eq_true rfl) dX12_share_7 eo6 (k_X12_isRoom e4) rfl ?_
  show AW G lo 0 0 10 [(0, .ref (lo + x0)), (1, .int x1), (2, .int x2)] [.int r5] h3
  refine a_if_eq (tgt := 25) C dX12_share_10 (by decide) (fun c12 => ?_) (fun c12 => ?_)
  · have e := ip c12 e
    refine a_ldc C ko_X12_73 dX12_share_25 ?_
    obtain ⟨rfl, rfl⟩ := sp2 e
    exact a_iret C q (Nat.le_of_ble_eq_true rfl) (Nat.le_of_ble_eq_true rfl) dX12_share_27
  · have e := iN c12 e
    refine a_iload_n C dX12_share_13 rfl 2 rfl ?_
    refine a_i2l C dX12_share_14 ?_
    refine a_lconst (v := (0 : Int64)) C dX12_share_15 (by decide) ?_
    refine a_ldc2 C kL_X12_272 dX12_share_16 ?_
    obtain ⟨r15, h13, e14, e⟩ := b2_some e
    refine a_callS (as := [.long x2.toInt64, .long (0 : Int64), .long (999 : Int64)]) (rest := []) C m_X12_in sm_X12_in ml_X12_63 rfl (Nat.le_of_ble_eq_true rfl) (Nat.le_of_ble_eq_true rfl) (Nat.le_of_ble_eq_true rfl) (Nat.le_of_ble_eq_true rfl) (Nat.le_of_ble_eq_true rfl) dX12_share_19 (k_X12_in e14) rfl ?_
    show AW G lo 0 0 22 [(0, .ref (lo + x0)), (1, .int x1), (2, .int x2)] [.int r15] h13
    refine a_if_ne (tgt := 28) C dX12_share_22 (by decide) (fun c21 => ?_) (fun c21 => ?_)
    · have e := iN c21 e
      refine a_aload_n C dX12_share_28 rfl 0 rfl ?_
      obtain ⟨a23, e22, e⟩ := bA_some e
      refine a_getN C cb11 5 (by decide) fl_X12_19 rfl dX12_share_29 e22 ?_
      obtain ⟨r26, h24, e25, e⟩ := b2_some e
      refine a_callS (as := [.ref (lo + a23)]) (rest := []) C m_X12_weightOf sm_X12_weightOf ml_X12_244 rfl (Nat.le_of_ble_eq_true rfl) (Nat.le_of_ble_eq_true rfl) (Nat.le_of_ble_eq_true rfl) (Nat.le_of_ble_eq_true rfl) (Nat.le_of_ble_eq_true rfl) dX12_share_32 (k_X12_weightOf e25) rfl ?_
      show AW G lo 0 0 35 [(0, .ref (lo + x0)), (1, .int x1), (2, .int x2)] [.int r26] h24
      refine a_istore_n (lv2 := [(3, .int r26), (0, .ref (lo + x0)), (1, .int x1), (2, .int x2)]) C dX12_share_35 rfl (by decide) rfl ?_
      refine a_aload_n C dX12_share_36 rfl 1 rfl ?_
      obtain ⟨a33, e32, e⟩ := bA_some e
      refine a_getN C cb11 5 (by decide) fl_X12_19 rfl dX12_share_37 e32 ?_
      refine a_bipush (v := (6 : Int32)) C dX12_share_40 (by decide) ?_
      refine a_iload_n C dX12_share_42 rfl 2 rfl ?_
      refine a_iadd C dX12_share_43 ?_
      obtain ⟨v34, e35, e⟩ := bA_some e
      refine a_iald C dX12_share_44 e35 ?_
      refine a_istore (lv2 := [(4, .int v34), (3, .int r26), (0, .ref (lo + x0)), (1, .int x1), (2, .int x2)]) C dX12_share_45 (by decide) rfl ?_
      refine a_iload C dX12_share_47 0 rfl ?_
      refine a_if_ne (tgt := 54) C dX12_share_49 (by decide) (fun c36 => ?_) (fun c36 => ?_)
      · have e := iN c36 e
        refine a_iload_n C dX12_share_54 rfl 4 rfl ?_
        refine a_istore (lv2 := [(5, .int x2), (4, .int v34), (3, .int r26), (0, .ref (lo + x0)), (1, .int x1), (2, .int x2)]) C dX12_share_55 (by decide) rfl ?_
        refine a_iconst (v := (0 : Int32)) C dX12_share_57 (by decide) ?_
        refine a_istore (lv2 := [(6, .int (0 : Int32)), (5, .int x2), (4, .int v34), (3, .int r26), (0, .ref (lo + x0)), (1, .int x1), (2, .int x2)]) C dX12_share_58 (by decide) rfl ?_
        refine a_iconst (v := (0 : Int32)) C dX12_share_60 (by decide) ?_
        refine a_istore (lv2 := [(7, .int (0 : Int32)), (6, .int (0 : Int32)), (5, .int x2), (4, .int v34), (3, .int r26), (0, .ref (lo + x0)), (1, .int x1), (2, .int x2)]) C dX12_share_61 (by decide) rfl ?_
        refine a_sub [5, 6, 7, 4, 3, 2, 1, 0] rfl (w_X12_share_L63 C ?_ (Nat.le_of_ble_eq_true rfl) (Nat.le_of_ble_eq_true rfl) 2000 _ _ _ _ e)
        intro h57 y58 y59 y60 e
        show AW G lo 0 0 128 [(0, .ref (lo + x0)), (1, .int x1), (2, .int x2), (3, .int r26), (4, .int v34), (5, .int y58), (6, .int y59), (7, .int y60)] [] h57
        refine a_iload_n C dX12_share_128 rfl 2 rfl ?_
        refine a_iload C dX12_share_129 4 rfl ?_
        refine a_imul C dX12_share_131 ?_
        refine a_iload_n C dX12_share_132 rfl 3 rfl ?_
        obtain ⟨u62, ez61, e⟩ := bA_some e
        refine a_idiv C dX12_share_133 (nzI_some ez61) ?_
        refine a_iload C dX12_share_134 6 rfl ?_
        refine a_iload C dX12_share_136 5 rfl ?_
        obtain ⟨j64, eb66, e⟩ := bA_some e
        have jj65 : AW G lo 0 0 146 [(0, .ref (lo + x0)), (1, .int x1), (2, .int x2), (3, .int r26), (4, .int v34), (5, .int y58), (6, .int y59), (7, .int y60)] [.int j64, .int ((x2 * v34) / r26)] h57 := by
          refine a_iadd C dX12_share_146 ?_
          obtain ⟨rfl, rfl⟩ := sp2 e
          exact a_iret C q (Nat.le_of_ble_eq_true rfl) (Nat.le_of_ble_eq_true rfl) dX12_share_147
        have e := eb66
        refine a_icmp_ge (tgt := 145) C dX12_share_138 (by decide) (fun c63 => ?_) (fun c63 => ?_)
        · have e := ip c63 e
          refine a_iconst (v := (0 : Int32)) C dX12_share_145 (by decide) ?_
          obtain rfl := sp1 e
          exact a_widen (Nat.le_of_ble_eq_true rfl) (Nat.le_of_ble_eq_true rfl) (a_sub [0, 1, 2, 3, 4, 5, 6, 7] rfl jj65)
        · have e := iN c63 e
          refine a_iconst (v := (1 : Int32)) C dX12_share_141 (by decide) ?_
          refine a_goto (tgt := 146) C dX12_share_142 (by decide) ?_
          obtain rfl := sp1 e
          exact a_widen (Nat.le_of_ble_eq_true rfl) (Nat.le_of_ble_eq_true rfl) (a_sub [0, 1, 2, 3, 4, 5, 6, 7] rfl jj65)
      · have e := ip c36 e
        refine a_iconst (v := (0 : Int32)) C dX12_share_52 (by decide) ?_
        obtain ⟨rfl, rfl⟩ := sp2 e
        exact a_iret C q (Nat.le_of_ble_eq_true rfl) (Nat.le_of_ble_eq_true rfl) dX12_share_53
    · have e := ip c21 e
      refine a_ldc C ko_X12_73 dX12_share_25 ?_
      obtain ⟨rfl, rfl⟩ := sp2 e
      exact a_iret C q (Nat.le_of_ble_eq_true rfl) (Nat.le_of_ble_eq_true rfl) dX12_share_27

set_option maxRecDepth 100000 in
def f_X12_afterTurns_L10 {β : Type} (k : Int32 → Int32 → Hp → Option (β)) (x0 : Nat) (x1 : Int32) (x2 : Int32) (x3 : Int32) : Nat → Hp → Int32 → Int32 → Option (β)
  | 0, _, _, _ => none
  | fuel + 1, h, x4, x5 => (if (3 : Int32) ≤ x5 then k x4 x5 h else bA (if x5 = 0 then some x1 else (if x5 = (1 : Int32) then some x2 else some x3)) fun j12 => bA (gN h x0 11 19) fun a17 => bA (ast h a17 0 (0 : Int32) j12) fun h18 => bA (gN h18 x0 11 5) fun a21 => bA (ald h18 a21 0 (0 : Int32)) fun v22 => b2 (if v22 ≤ j12 then some ((0 : Int32), h18) else bA (gN h18 x0 11 7) fun a30 => bA (isC h18 x0 11) fun u37 => b2 (f_X12_goOut h18 x0 a30 (1 : Int32)) fun r33 h31 => some (r33, h31)) fun j25 h26 => bA (if x5 = (1 : Int32) then some (-j25) else some j25) fun j41 => f_X12_afterTurns_L10 k x0 x1 x2 x3 fuel h26 (x4 + j41) (x5 + (1 : Int32)))

set_option maxRecDepth 100000 in
def f_X12_afterTurns (h : Hp) (x0 : Nat) (x1 : Int32) (x2 : Int32) (x3 : Int32) : Option (Int32 × Hp) := bA (isC h x0 11) fun u7 => bA (f_X12_layThen h x0 ) fun h1 => f_X12_afterTurns_L10 (fun y45 y46 h44 => some (y45, h44)) x0 x1 x2 x3 2000 h1 (0 : Int32) (0 : Int32)

theorem m_X12_afterTurns : MI yX12_afterTurns cX12_afterTurns 8 (some .int) 3 := ⟨co_X12_afterTurns, ini_X12, by decide, by decide +kernel⟩
set_option maxRecDepth 100000 in
set_option maxHeartbeats 4000000 in
theorem w_X12_afterTurns_L10 {G : Gm} {lo : Nat} {ce sl : Nat} (C : CX G lo cX12_afterTurns RX12 (some .int) ({ frames := 6, cells := 0, slots := 0, locals := 137 } : Room) 8) {β : Type} {res : β} {k : Int32 → Int32 → Hp → Option (β)} {x0 : Nat} {x1 : Int32} {x2 : Int32} {x3 : Int32} (hk : ∀ (h : Hp) (x4 : Int32) (x5 : Int32), k x4 x5 h = some res → AW G lo ce sl 97 [(0, .ref (lo + x0)), (1, .int x1), (2, .int x2), (3, .int x3), (4, .int x4), (5, .int x5)] [] h) (hce : ce ≤ 0) (hsl : sl ≤ 0) : ∀ (fuel : Nat) (h : Hp) (x4 : Int32) (x5 : Int32), f_X12_afterTurns_L10 k x0 x1 x2 x3 fuel h x4 x5 = some res → AW G lo ce sl 10 [(0, .ref (lo + x0)), (1, .int x1), (2, .int x2), (3, .int x3), (4, .int x4), (5, .int x5)] [] h := by
  intro fuel
  induction fuel with
  | zero =>
    intro h x4 x5 e
    cases (show (none : Option (β)) = some res from e)
  | succ fuel ih =>
    intro h x4 x5 e
    rw [f_X12_afterTurns_L10] at e
    refine a_iload C dX12_afterTurns_10 5 rfl ?_
    refine a_iconst (v := (3 : Int32)) C dX12_afterTurns_12 (by decide) ?_
    refine a_icmp_ge (tgt := 97) C dX12_afterTurns_13 (by decide) (fun c10 => ?_) (fun c10 => ?_)
    · have e := ip c10 e
      exact a_sub [0, 1, 2, 3, 4, 5] rfl (hk _ _ _ e)
    · have e := iN c10 e
      refine a_iload C dX12_afterTurns_16 5 rfl ?_
      obtain ⟨j12, eb14, e⟩ := bA_some e
      have jj13 : AW G lo ce sl 36 [(0, .ref (lo + x0)), (1, .int x1), (2, .int x2), (3, .int x3), (4, .int x4), (5, .int x5)] [.int j12] h := by
        refine a_istore (lv2 := [(6, .int j12), (0, .ref (lo + x0)), (1, .int x1), (2, .int x2), (3, .int x3), (4, .int x4), (5, .int x5)]) C dX12_afterTurns_36 (by decide) rfl ?_
        refine a_aload_n C dX12_afterTurns_38 rfl 1 rfl ?_
        obtain ⟨a17, e16, e⟩ := bA_some e
        refine a_getN C cb11 19 (by decide) fl_X12_34 rfl dX12_afterTurns_39 e16 ?_
        refine a_iconst (v := (0 : Int32)) C dX12_afterTurns_42 (by decide) ?_
        refine a_iload C dX12_afterTurns_43 0 rfl ?_
        obtain ⟨h18, e19, e⟩ := bA_some e
        refine a_iast C dX12_afterTurns_45 e19 ?_
        refine a_iload C dX12_afterTurns_46 0 rfl ?_
        refine a_aload_n C dX12_afterTurns_48 rfl 1 rfl ?_
        obtain ⟨a21, e20, e⟩ := bA_some e
        refine a_getN C cb11 5 (by decide) fl_X12_19 rfl dX12_afterTurns_49 e20 ?_
        refine a_iconst (v := (0 : Int32)) C dX12_afterTurns_52 (by decide) ?_
        obtain ⟨v22, e23, e⟩ := bA_some e
        refine a_iald C dX12_afterTurns_53 e23 ?_
        obtain ⟨j25, h26, eb28, e⟩ := b2_some e
        have jj27 : AW G lo ce sl 70 [(0, .ref (lo + x0)), (1, .int x1), (2, .int x2), (3, .int x3), (4, .int x4), (5, .int x5), (6, .int j12)] [.int j25] h26 := by
          refine a_istore (lv2 := [(7, .int j25), (0, .ref (lo + x0)), (1, .int x1), (2, .int x2), (3, .int x3), (4, .int x4), (5, .int x5), (6, .int j12)]) C dX12_afterTurns_70 (by decide) rfl ?_
          refine a_iload C dX12_afterTurns_72 5 rfl ?_
          refine a_iload C dX12_afterTurns_74 6 rfl ?_
          refine a_iconst (v := (1 : Int32)) C dX12_afterTurns_76 (by decide) ?_
          obtain ⟨j41, eb43, e⟩ := bA_some e
          have jj42 : AW G lo ce sl 88 [(0, .ref (lo + x0)), (1, .int x1), (2, .int x2), (3, .int x3), (4, .int x4), (5, .int x5), (6, .int j12), (7, .int j25)] [.int j41, .int x4] h26 := by
            refine a_iadd C dX12_afterTurns_88 ?_
            refine a_istore (lv2 := [(4, .int (x4 + j41)), (0, .ref (lo + x0)), (1, .int x1), (2, .int x2), (3, .int x3), (5, .int x5), (6, .int j12), (7, .int j25)]) C dX12_afterTurns_89 (by decide) rfl ?_
            refine a_iinc (v := x5 + (1 : Int32)) (lv2 := [(5, .int (x5 + (1 : Int32))), (4, .int (x4 + j41)), (0, .ref (lo + x0)), (1, .int x1), (2, .int x2), (3, .int x3), (6, .int j12), (7, .int j25)]) C dX12_afterTurns_91 5 rfl rfl (by decide) rfl ?_
            refine a_goto (tgt := 10) C dX12_afterTurns_94 (by decide) ?_
            exact a_sub [2, 3, 4, 5, 1, 0] rfl (ih _ _ _ e)
          have e := eb43
          refine a_icmp_ne (tgt := 86) C dX12_afterTurns_77 (by decide) (fun c40 => ?_) (fun c40 => ?_)
          · have e := iN c40 e
            refine a_iload C dX12_afterTurns_86 0 rfl ?_
            obtain rfl := sp1 e
            exact a_widen (Nat.le_refl _) (Nat.le_refl _) (a_sub [1, 2, 3, 4, 5, 6, 7, 0] rfl jj42)
          · have e := ip c40 e
            refine a_iload C dX12_afterTurns_80 0 rfl ?_
            refine a_ineg C dX12_afterTurns_82 ?_
            refine a_goto (tgt := 88) C dX12_afterTurns_83 (by decide) ?_
            obtain rfl := sp1 e
            exact a_widen (Nat.le_refl _) (Nat.le_refl _) (a_sub [1, 2, 3, 4, 5, 6, 7, 0] rfl jj42)
        have e := eb28
        refine a_icmp_ge (tgt := 69) C dX12_afterTurns_54 (by decide) (fun c24 => ?_) (fun c24 => ?_)
        · have e := ip c24 e
          refine a_iconst (v := (0 : Int32)) C dX12_afterTurns_69 (by decide) ?_
          obtain ⟨rfl, rfl⟩ := sp2 e
          exact a_widen (Nat.le_refl _) (Nat.le_refl _) (a_sub [1, 2, 3, 4, 5, 6, 0] rfl jj27)
        · have e := iN c24 e
          refine a_aload_n C dX12_afterTurns_57 rfl 1 rfl ?_
          refine a_aload_n C dX12_afterTurns_58 rfl 1 rfl ?_
          obtain ⟨a30, e29, e⟩ := bA_some e
          refine a_getN C cb11 7 (by decide) fl_X12_25 rfl dX12_afterTurns_59 e29 ?_
          refine a_iconst (v := (1 : Int32)) C dX12_afterTurns_62 (by decide) ?_
          obtain ⟨u37, ec36, e⟩ := bA_some e
          obtain ⟨fs35, eo34⟩ := isC_some ec36
          obtain ⟨r33, h31, e32, e⟩ := b2_some e
          refine a_callV (as := [.ref (lo + a30), .int (1 : Int32)]) (rest := []) C m_X12_goOut im_X12_goOut cb11 se_X12_X12_goOut_X12_goOut ml_X12_230 rfl (Nat.le_of_ble_eq_true rfl) (Nat.le_of_ble_eq_true rfl) (by exact hce) (by exact hsl) (Nat.le_of_ble_eq_true rfl) dX12_afterTurns_63 eo34 (k_X12_goOut e32) rfl ?_
          show AW G lo ce sl 66 [(6, .int j12), (0, .ref (lo + x0)), (1, .int x1), (2, .int x2), (3, .int x3), (4, .int x4), (5, .int x5)] [.int r33] h31
          refine a_goto (tgt := 70) C dX12_afterTurns_66 (by decide) ?_
          obtain ⟨rfl, rfl⟩ := sp2 e
          exact a_widen (Nat.le_refl _) (Nat.le_refl _) (a_sub [1, 2, 3, 4, 5, 6, 0] rfl jj27)
      have e := eb14
      refine a_if_ne (tgt := 25) C dX12_afterTurns_18 (by decide) (fun c11 => ?_) (fun c11 => ?_)
      · have e := iN c11 e
        refine a_iload C dX12_afterTurns_25 5 rfl ?_
        refine a_iconst (v := (1 : Int32)) C dX12_afterTurns_27 (by decide) ?_
        refine a_icmp_ne (tgt := 35) C dX12_afterTurns_28 (by decide) (fun c15 => ?_) (fun c15 => ?_)
        · have e := iN c15 e
          refine a_iload_n C dX12_afterTurns_35 rfl 3 rfl ?_
          obtain rfl := sp1 e
          exact a_widen (Nat.le_refl _) (Nat.le_refl _) (a_sub [0, 1, 2, 3, 4, 5] rfl jj13)
        · have e := ip c15 e
          refine a_iload_n C dX12_afterTurns_31 rfl 2 rfl ?_
          refine a_goto (tgt := 36) C dX12_afterTurns_32 (by decide) ?_
          obtain rfl := sp1 e
          exact a_widen (Nat.le_refl _) (Nat.le_refl _) (a_sub [0, 1, 2, 3, 4, 5] rfl jj13)
      · have e := ip c11 e
        refine a_iload_n C dX12_afterTurns_21 rfl 1 rfl ?_
        refine a_goto (tgt := 36) C dX12_afterTurns_22 (by decide) ?_
        obtain rfl := sp1 e
        exact a_widen (Nat.le_refl _) (Nat.le_refl _) (a_sub [0, 1, 2, 3, 4, 5] rfl jj13)
set_option maxRecDepth 100000 in
set_option maxHeartbeats 4000000 in
theorem k_X12_afterTurns {lo : Nat} {h : Hp} {x0 : Nat} {x1 : Int32} {x2 : Int32} {x3 : Int32} {r : Int32} {h' : Hp} (e : f_X12_afterTurns h x0 x1 x2 x3 = some (r, h')) : ∀ l d, AC l d lo yX12_afterTurns cX12_afterTurns 8 (some .int) ({ frames := 6, cells := 0, slots := 0, locals := 137 } : Room) [.ref (lo + x0), .int x1, .int x2, .int x3] h (some (.int r)) h' := by
  intro l d
  refine AC_of (by decide) (Nat.le_of_ble_eq_true rfl) ?_
  intro G C _ _ q
  unfold f_X12_afterTurns at e
  show AW G lo 0 0 0 [(0, .ref (lo + x0)), (1, .int x1), (2, .int x2), (3, .int x3)] [] h
  refine a_iconst (v := (0 : Int32)) C dX12_afterTurns_0 (by decide) ?_
  refine a_istore (lv2 := [(4, .int (0 : Int32)), (0, .ref (lo + x0)), (1, .int x1), (2, .int x2), (3, .int x3)]) C dX12_afterTurns_1 (by decide) rfl ?_
  refine a_aload_n C dX12_afterTurns_3 rfl 1 rfl ?_
  obtain ⟨u7, ec6, e⟩ := bA_some e
  obtain ⟨fs5, eo4⟩ := isC_some ec6
  obtain ⟨h1, e2, e⟩ := bA_some e
  refine a_callV (as := []) (rest := []) C m_X12_layThen im_X12_layThen cb11 se_X12_X12_layThen_X12_layThen ml_X12_255 rfl (Nat.le_of_ble_eq_true rfl) (Nat.le_of_ble_eq_true rfl) (Nat.le_of_ble_eq_true rfl) (Nat.le_of_ble_eq_true rfl) (Nat.le_of_ble_eq_true rfl) dX12_afterTurns_4 eo4 (k_X12_layThen e2) rfl ?_
  show AW G lo 0 0 7 [(4, .int (0 : Int32)), (0, .ref (lo + x0)), (1, .int x1), (2, .int x2), (3, .int x3)] [] h1
  refine a_iconst (v := (0 : Int32)) C dX12_afterTurns_7 (by decide) ?_
  refine a_istore (lv2 := [(5, .int (0 : Int32)), (4, .int (0 : Int32)), (0, .ref (lo + x0)), (1, .int x1), (2, .int x2), (3, .int x3)]) C dX12_afterTurns_8 (by decide) rfl ?_
  refine a_sub [2, 3, 4, 5, 1, 0] rfl (w_X12_afterTurns_L10 C ?_ (Nat.le_of_ble_eq_true rfl) (Nat.le_of_ble_eq_true rfl) 2000 _ _ _ e)
  intro h44 y45 y46 e
  show AW G lo 0 0 97 [(0, .ref (lo + x0)), (1, .int x1), (2, .int x2), (3, .int x3), (4, .int y45), (5, .int y46)] [] h44
  refine a_iload C dX12_afterTurns_97 4 rfl ?_
  obtain ⟨rfl, rfl⟩ := sp2 e
  exact a_iret C q (Nat.le_of_ble_eq_true rfl) (Nat.le_of_ble_eq_true rfl) dX12_afterTurns_99

set_option maxRecDepth 100000 in
def f_X12_byTurns_L95 {β : Type} (k : Int32 → Int32 → Hp → Option (β)) (x0 : Nat) (x1 : Int32) (x2 : Int32) (x3 : Int32) (x4 : Int32) (x5 : Int32) (x6 : Int32) : Nat → Hp → Int32 → Int32 → Option (β)
  | 0, _, _, _ => none
  | fuel + 1, h, x7, x8 => (if x2 < x8 then k x7 x8 h else bA (isC h x0 11) fun u47 => b2 (f_X12_afterTurns h x0 x4 x6 x8) fun r43 h41 => bA (if r43 ≤ x7 then some x7 else some r43) fun j51 => f_X12_byTurns_L95 k x0 x1 x2 x3 x4 x5 x6 fuel h41 j51 (x8 + (1 : Int32)))

set_option maxRecDepth 100000 in
def f_X12_byTurns_L73 {β : Type} (k : Int32 → Int32 → Hp → Option (β)) (x0 : Nat) (x1 : Int32) (x2 : Int32) (x3 : Int32) (x4 : Int32) : Nat → Hp → Int32 → Int32 → Option (β)
  | 0, _, _, _ => none
  | fuel + 1, h, x5, x6 => (if x2 < x6 then k x5 x6 h else bA (if x1 ≤ (2 : Int32) then some x2 else some (0 : Int32)) fun j37 => f_X12_byTurns_L95 (fun y55 y56 h54 => bA (if x5 = (-1000000 : Int32) then some y55 else (if x5 ≤ y55 then some x5 else some y55)) fun j58 => f_X12_byTurns_L73 k x0 x1 x2 x3 x4 fuel h54 j58 (x6 + (1 : Int32))) x0 x1 x2 x3 x4 x5 x6 2000 h (-1000000 : Int32) j37)

set_option maxRecDepth 100000 in
def f_X12_byTurns_L51 {β : Type} (k : Int32 → Int32 → Hp → Option (β)) (x0 : Nat) (x1 : Int32) (x2 : Int32) : Nat → Hp → Int32 → Int32 → Option (β)
  | 0, _, _, _ => none
  | fuel + 1, h, x3, x4 => (if x2 < x4 then k x3 x4 h else bA (if x1 ≤ (1 : Int32) then some x2 else some (0 : Int32)) fun j32 => f_X12_byTurns_L73 (fun y63 y64 h62 => bA (if y63 ≤ x3 then some x3 else some y63) fun j66 => f_X12_byTurns_L51 k x0 x1 x2 fuel h62 j66 (x4 + (1 : Int32))) x0 x1 x2 x3 x4 2000 h (-1000000 : Int32) j32)

set_option maxRecDepth 100000 in
def f_X12_byTurns (h : Hp) (x0 : Nat) (x1 : Int32) : Option (Int32 × Hp) := bA (pV h x0 11 0 (.inl (0 : Int32))) fun h2 => bA (isC h2 x0 11) fun u9 => b2 (f_X12_isThere h2 x0 ) fun r5 h3 => (if r5 = 0 then some ((-1000002 : Int32), h3) else b2 (f_X12_in h3 x1.toInt64 (0 : Int64) (3 : Int64)) fun r15 h13 => (if r15 = 0 then some ((-1000001 : Int32), h13) else bA (gN h13 x0 11 5) fun a23 => bA (ald h13 a23 0 (0 : Int32)) fun v24 => bA (if x1 ≤ 0 then some v24 else some (0 : Int32)) fun j27 => f_X12_byTurns_L51 (fun y70 y71 h69 => some (y70, h69)) x0 x1 v24 2000 h13 (-1000000 : Int32) j27))

theorem m_X12_byTurns : MI yX12_byTurns cX12_byTurns 10 (some .int) 1 := ⟨co_X12_byTurns, ini_X12, by decide, by decide +kernel⟩
set_option maxRecDepth 100000 in
set_option maxHeartbeats 4000000 in
theorem w_X12_byTurns_L95 {G : Gm} {lo : Nat} {ce sl : Nat} (C : CX G lo cX12_byTurns RX12 (some .int) ({ frames := 7, cells := 0, slots := 0, locals := 164 } : Room) 10) {β : Type} {res : β} {k : Int32 → Int32 → Hp → Option (β)} {x0 : Nat} {x1 : Int32} {x2 : Int32} {x3 : Int32} {x4 : Int32} {x5 : Int32} {x6 : Int32} (hk : ∀ (h : Hp) (x7 : Int32) (x8 : Int32), k x7 x8 h = some res → AW G lo ce sl 135 [(0, .ref (lo + x0)), (1, .int x1), (2, .int x2), (3, .int x3), (4, .int x4), (5, .int x5), (6, .int x6), (7, .int x7), (8, .int x8)] [] h) (hce : ce ≤ 0) (hsl : sl ≤ 0) : ∀ (fuel : Nat) (h : Hp) (x7 : Int32) (x8 : Int32), f_X12_byTurns_L95 k x0 x1 x2 x3 x4 x5 x6 fuel h x7 x8 = some res → AW G lo ce sl 95 [(0, .ref (lo + x0)), (1, .int x1), (2, .int x2), (3, .int x3), (4, .int x4), (5, .int x5), (6, .int x6), (7, .int x7), (8, .int x8)] [] h := by
  intro fuel
  induction fuel with
  | zero =>
    intro h x7 x8 e
    cases (show (none : Option (β)) = some res from e)
  | succ fuel ih =>
    intro h x7 x8 e
    rw [f_X12_byTurns_L95] at e
    refine a_iload C dX12_byTurns_95 8 rfl ?_
    refine a_iload_n C dX12_byTurns_97 rfl 2 rfl ?_
    refine a_icmp_gt (tgt := 135) C dX12_byTurns_98 (by decide) (fun c40 => ?_) (fun c40 => ?_)
    · have e := ip c40 e
      exact a_sub [0, 1, 2, 3, 4, 5, 6, 7, 8] rfl (hk _ _ _ e)
    · have e := iN c40 e
      refine a_aload_n C dX12_byTurns_101 rfl 0 rfl ?_
      refine a_iload C dX12_byTurns_102 4 rfl ?_
      refine a_iload C dX12_byTurns_104 6 rfl ?_
      refine a_iload C dX12_byTurns_106 8 rfl ?_
      obtain ⟨u47, ec46, e⟩ := bA_some e
      obtain ⟨fs45, eo44⟩ := isC_some ec46
      obtain ⟨r43, h41, e42, e⟩ := b2_some e
      refine a_callV (as := [.int x4, .int x6, .int x8]) (rest := []) C m_X12_afterTurns im_X12_afterTurns cb11 se_X12_X12_afterTurns_X12_afterTurns ml_X12_276 rfl (Nat.le_of_ble_eq_true rfl) (Nat.le_of_ble_eq_true rfl) (by exact hce) (by exact hsl) (Nat.le_of_ble_eq_true rfl) dX12_byTurns_108 eo44 (k_X12_afterTurns e42) rfl ?_
      show AW G lo ce sl 111 [(0, .ref (lo + x0)), (1, .int x1), (2, .int x2), (3, .int x3), (4, .int x4), (5, .int x5), (6, .int x6), (7, .int x7), (8, .int x8)] [.int r43] h41
      refine a_istore (lv2 := [(9, .int r43), (0, .ref (lo + x0)), (1, .int x1), (2, .int x2), (3, .int x3), (4, .int x4), (5, .int x5), (6, .int x6), (7, .int x7), (8, .int x8)]) C dX12_byTurns_111 (by decide) rfl ?_
      refine a_iload C dX12_byTurns_113 0 rfl ?_
      refine a_iload C dX12_byTurns_115 8 rfl ?_
      obtain ⟨j51, eb53, e⟩ := bA_some e
      have jj52 : AW G lo ce sl 127 [(0, .ref (lo + x0)), (1, .int x1), (2, .int x2), (3, .int x3), (4, .int x4), (5, .int x5), (6, .int x6), (7, .int x7), (8, .int x8), (9, .int r43)] [.int j51] h41 := by
        refine a_istore (lv2 := [(7, .int j51), (0, .ref (lo + x0)), (1, .int x1), (2, .int x2), (3, .int x3), (4, .int x4), (5, .int x5), (6, .int x6), (8, .int x8), (9, .int r43)]) C dX12_byTurns_127 (by decide) rfl ?_
        refine a_iinc (v := x8 + (1 : Int32)) (lv2 := [(8, .int (x8 + (1 : Int32))), (7, .int j51), (0, .ref (lo + x0)), (1, .int x1), (2, .int x2), (3, .int x3), (4, .int x4), (5, .int x5), (6, .int x6), (9, .int r43)]) C dX12_byTurns_129 8 rfl rfl (by decide) rfl ?_
        refine a_goto (tgt := 95) C dX12_byTurns_132 (by decide) ?_
        exact a_sub [2, 3, 4, 5, 6, 7, 8, 1, 0] rfl (ih _ _ _ e)
      have e := eb53
      refine a_icmp_le (tgt := 125) C dX12_byTurns_117 (by decide) (fun c50 => ?_) (fun c50 => ?_)
      · have e := ip c50 e
        refine a_iload C dX12_byTurns_125 8 rfl ?_
        obtain rfl := sp1 e
        exact a_widen (Nat.le_refl _) (Nat.le_refl _) (a_sub [1, 2, 3, 4, 5, 6, 7, 8, 9, 0] rfl jj52)
      · have e := iN c50 e
        refine a_iload C dX12_byTurns_120 0 rfl ?_
        refine a_goto (tgt := 127) C dX12_byTurns_122 (by decide) ?_
        obtain rfl := sp1 e
        exact a_widen (Nat.le_refl _) (Nat.le_refl _) (a_sub [1, 2, 3, 4, 5, 6, 7, 8, 9, 0] rfl jj52)
set_option maxRecDepth 100000 in
set_option maxHeartbeats 4000000 in
theorem w_X12_byTurns_L73 {G : Gm} {lo : Nat} {ce sl : Nat} (C : CX G lo cX12_byTurns RX12 (some .int) ({ frames := 7, cells := 0, slots := 0, locals := 164 } : Room) 10) {β : Type} {res : β} {k : Int32 → Int32 → Hp → Option (β)} {x0 : Nat} {x1 : Int32} {x2 : Int32} {x3 : Int32} {x4 : Int32} (hk : ∀ (h : Hp) (x5 : Int32) (x6 : Int32), k x5 x6 h = some res → AW G lo ce sl 164 [(0, .ref (lo + x0)), (1, .int x1), (2, .int x2), (3, .int x3), (4, .int x4), (5, .int x5), (6, .int x6)] [] h) (hce : ce ≤ 0) (hsl : sl ≤ 0) : ∀ (fuel : Nat) (h : Hp) (x5 : Int32) (x6 : Int32), f_X12_byTurns_L73 k x0 x1 x2 x3 x4 fuel h x5 x6 = some res → AW G lo ce sl 73 [(0, .ref (lo + x0)), (1, .int x1), (2, .int x2), (3, .int x3), (4, .int x4), (5, .int x5), (6, .int x6)] [] h := by
  intro fuel
  induction fuel with
  | zero =>
    intro h x5 x6 e
    cases (show (none : Option (β)) = some res from e)
  | succ fuel ih =>
    intro h x5 x6 e
    rw [f_X12_byTurns_L73] at e
    refine a_iload C dX12_byTurns_73 6 rfl ?_
    refine a_iload_n C dX12_byTurns_75 rfl 2 rfl ?_
    refine a_icmp_gt (tgt := 164) C dX12_byTurns_76 (by decide) (fun c35 => ?_) (fun c35 => ?_)
    · have e := ip c35 e
      exact a_sub [0, 1, 2, 3, 4, 5, 6] rfl (hk _ _ _ e)
    · have e := iN c35 e
      refine a_ldc C ko_X12_96 dX12_byTurns_79 ?_
      refine a_istore (lv2 := [(7, .int (-1000000 : Int32)), (0, .ref (lo + x0)), (1, .int x1), (2, .int x2), (3, .int x3), (4, .int x4), (5, .int x5), (6, .int x6)]) C dX12_byTurns_81 (by decide) rfl ?_
      refine a_iload_n C dX12_byTurns_83 rfl 2 rfl ?_
      refine a_iconst (v := (2 : Int32)) C dX12_byTurns_84 (by decide) ?_
      obtain ⟨j37, eb39, e⟩ := bA_some e
      have jj38 : AW G lo ce sl 93 [(0, .ref (lo + x0)), (1, .int x1), (2, .int x2), (3, .int x3), (4, .int x4), (5, .int x5), (6, .int x6), (7, .int (-1000000 : Int32))] [.int j37] h := by
        refine a_istore (lv2 := [(8, .int j37), (0, .ref (lo + x0)), (1, .int x1), (2, .int x2), (3, .int x3), (4, .int x4), (5, .int x5), (6, .int x6), (7, .int (-1000000 : Int32))]) C dX12_byTurns_93 (by decide) rfl ?_
        refine a_sub [1, 2, 3, 4, 5, 6, 7, 8, 0] rfl (w_X12_byTurns_L95 C ?_ (by exact hce) (by exact hsl) 2000 _ _ _ e)
        intro h54 y55 y56 e
        show AW G lo ce sl 135 [(0, .ref (lo + x0)), (1, .int x1), (2, .int x2), (3, .int x3), (4, .int x4), (5, .int x5), (6, .int x6), (7, .int y55), (8, .int y56)] [] h54
        refine a_iload C dX12_byTurns_135 5 rfl ?_
        refine a_ldc C ko_X12_96 dX12_byTurns_137 ?_
        obtain ⟨j58, eb60, e⟩ := bA_some e
        have jj59 : AW G lo ce sl 156 [(0, .ref (lo + x0)), (1, .int x1), (2, .int x2), (3, .int x3), (4, .int x4), (5, .int x5), (6, .int x6), (7, .int y55), (8, .int y56)] [.int j58] h54 := by
          refine a_istore (lv2 := [(5, .int j58), (0, .ref (lo + x0)), (1, .int x1), (2, .int x2), (3, .int x3), (4, .int x4), (6, .int x6), (7, .int y55), (8, .int y56)]) C dX12_byTurns_156 (by decide) rfl ?_
          refine a_iinc (v := x6 + (1 : Int32)) (lv2 := [(6, .int (x6 + (1 : Int32))), (5, .int j58), (0, .ref (lo + x0)), (1, .int x1), (2, .int x2), (3, .int x3), (4, .int x4), (7, .int y55), (8, .int y56)]) C dX12_byTurns_158 6 rfl rfl (by decide) rfl ?_
          refine a_goto (tgt := 73) C dX12_byTurns_161 (by decide) ?_
          exact a_sub [2, 3, 4, 5, 6, 1, 0] rfl (ih _ _ _ e)
        have e := eb60
        refine a_icmp_eq (tgt := 149) C dX12_byTurns_139 (by decide) (fun c57 => ?_) (fun c57 => ?_)
        · have e := ip c57 e
          refine a_iload C dX12_byTurns_149 7 rfl ?_
          refine a_goto (tgt := 156) C dX12_byTurns_151 (by decide) ?_
          obtain rfl := sp1 e
          exact a_widen (Nat.le_refl _) (Nat.le_refl _) (a_sub [0, 1, 2, 3, 4, 5, 6, 7, 8] rfl jj59)
        · have e := iN c57 e
          refine a_iload C dX12_byTurns_142 7 rfl ?_
          refine a_iload C dX12_byTurns_144 5 rfl ?_
          refine a_icmp_ge (tgt := 154) C dX12_byTurns_146 (by decide) (fun c61 => ?_) (fun c61 => ?_)
          · have e := ip c61 e
            refine a_iload C dX12_byTurns_154 5 rfl ?_
            obtain rfl := sp1 e
            exact a_widen (Nat.le_refl _) (Nat.le_refl _) (a_sub [0, 1, 2, 3, 4, 5, 6, 7, 8] rfl jj59)
          · have e := iN c61 e
            refine a_iload C dX12_byTurns_149 7 rfl ?_
            refine a_goto (tgt := 156) C dX12_byTurns_151 (by decide) ?_
            obtain rfl := sp1 e
            exact a_widen (Nat.le_refl _) (Nat.le_refl _) (a_sub [0, 1, 2, 3, 4, 5, 6, 7, 8] rfl jj59)
      have e := eb39
      refine a_icmp_le (tgt := 92) C dX12_byTurns_85 (by decide) (fun c36 => ?_) (fun c36 => ?_)
      · have e := ip c36 e
        refine a_iload_n C dX12_byTurns_92 rfl 3 rfl ?_
        obtain rfl := sp1 e
        exact a_widen (Nat.le_refl _) (Nat.le_refl _) (a_sub [1, 2, 3, 4, 5, 6, 7, 0] rfl jj38)
      · have e := iN c36 e
        refine a_iconst (v := (0 : Int32)) C dX12_byTurns_88 (by decide) ?_
        refine a_goto (tgt := 93) C dX12_byTurns_89 (by decide) ?_
        obtain rfl := sp1 e
        exact a_widen (Nat.le_refl _) (Nat.le_refl _) (a_sub [1, 2, 3, 4, 5, 6, 7, 0] rfl jj38)
set_option maxRecDepth 100000 in
set_option maxHeartbeats 4000000 in
theorem w_X12_byTurns_L51 {G : Gm} {lo : Nat} {ce sl : Nat} (C : CX G lo cX12_byTurns RX12 (some .int) ({ frames := 7, cells := 0, slots := 0, locals := 164 } : Room) 10) {β : Type} {res : β} {k : Int32 → Int32 → Hp → Option (β)} {x0 : Nat} {x1 : Int32} {x2 : Int32} (hk : ∀ (h : Hp) (x3 : Int32) (x4 : Int32), k x3 x4 h = some res → AW G lo ce sl 183 [(0, .ref (lo + x0)), (1, .int x1), (2, .int x2), (3, .int x3), (4, .int x4)] [] h) (hce : ce ≤ 0) (hsl : sl ≤ 0) : ∀ (fuel : Nat) (h : Hp) (x3 : Int32) (x4 : Int32), f_X12_byTurns_L51 k x0 x1 x2 fuel h x3 x4 = some res → AW G lo ce sl 51 [(0, .ref (lo + x0)), (1, .int x1), (2, .int x2), (3, .int x3), (4, .int x4)] [] h := by
  intro fuel
  induction fuel with
  | zero =>
    intro h x3 x4 e
    cases (show (none : Option (β)) = some res from e)
  | succ fuel ih =>
    intro h x3 x4 e
    rw [f_X12_byTurns_L51] at e
    refine a_iload C dX12_byTurns_51 4 rfl ?_
    refine a_iload_n C dX12_byTurns_53 rfl 2 rfl ?_
    refine a_icmp_gt (tgt := 183) C dX12_byTurns_54 (by decide) (fun c30 => ?_) (fun c30 => ?_)
    · have e := ip c30 e
      exact a_sub [0, 1, 2, 3, 4] rfl (hk _ _ _ e)
    · have e := iN c30 e
      refine a_ldc C ko_X12_96 dX12_byTurns_57 ?_
      refine a_istore (lv2 := [(5, .int (-1000000 : Int32)), (0, .ref (lo + x0)), (1, .int x1), (2, .int x2), (3, .int x3), (4, .int x4)]) C dX12_byTurns_59 (by decide) rfl ?_
      refine a_iload_n C dX12_byTurns_61 rfl 2 rfl ?_
      refine a_iconst (v := (1 : Int32)) C dX12_byTurns_62 (by decide) ?_
      obtain ⟨j32, eb34, e⟩ := bA_some e
      have jj33 : AW G lo ce sl 71 [(0, .ref (lo + x0)), (1, .int x1), (2, .int x2), (3, .int x3), (4, .int x4), (5, .int (-1000000 : Int32))] [.int j32] h := by
        refine a_istore (lv2 := [(6, .int j32), (0, .ref (lo + x0)), (1, .int x1), (2, .int x2), (3, .int x3), (4, .int x4), (5, .int (-1000000 : Int32))]) C dX12_byTurns_71 (by decide) rfl ?_
        refine a_sub [1, 2, 3, 4, 5, 6, 0] rfl (w_X12_byTurns_L73 C ?_ (by exact hce) (by exact hsl) 2000 _ _ _ e)
        intro h62 y63 y64 e
        show AW G lo ce sl 164 [(0, .ref (lo + x0)), (1, .int x1), (2, .int x2), (3, .int x3), (4, .int x4), (5, .int y63), (6, .int y64)] [] h62
        refine a_iload C dX12_byTurns_164 5 rfl ?_
        refine a_iload_n C dX12_byTurns_166 rfl 3 rfl ?_
        obtain ⟨j66, eb68, e⟩ := bA_some e
        have jj67 : AW G lo ce sl 176 [(0, .ref (lo + x0)), (1, .int x1), (2, .int x2), (3, .int x3), (4, .int x4), (5, .int y63), (6, .int y64)] [.int j66] h62 := by
          refine a_istore_n (lv2 := [(3, .int j66), (0, .ref (lo + x0)), (1, .int x1), (2, .int x2), (4, .int x4), (5, .int y63), (6, .int y64)]) C dX12_byTurns_176 rfl (by decide) rfl ?_
          refine a_iinc (v := x4 + (1 : Int32)) (lv2 := [(4, .int (x4 + (1 : Int32))), (3, .int j66), (0, .ref (lo + x0)), (1, .int x1), (2, .int x2), (5, .int y63), (6, .int y64)]) C dX12_byTurns_177 4 rfl rfl (by decide) rfl ?_
          refine a_goto (tgt := 51) C dX12_byTurns_180 (by decide) ?_
          exact a_sub [2, 3, 4, 1, 0] rfl (ih _ _ _ e)
        have e := eb68
        refine a_icmp_le (tgt := 175) C dX12_byTurns_167 (by decide) (fun c65 => ?_) (fun c65 => ?_)
        · have e := ip c65 e
          refine a_iload_n C dX12_byTurns_175 rfl 3 rfl ?_
          obtain rfl := sp1 e
          exact a_widen (Nat.le_refl _) (Nat.le_refl _) (a_sub [0, 1, 2, 3, 4, 5, 6] rfl jj67)
        · have e := iN c65 e
          refine a_iload C dX12_byTurns_170 5 rfl ?_
          refine a_goto (tgt := 176) C dX12_byTurns_172 (by decide) ?_
          obtain rfl := sp1 e
          exact a_widen (Nat.le_refl _) (Nat.le_refl _) (a_sub [0, 1, 2, 3, 4, 5, 6] rfl jj67)
      have e := eb34
      refine a_icmp_le (tgt := 70) C dX12_byTurns_63 (by decide) (fun c31 => ?_) (fun c31 => ?_)
      · have e := ip c31 e
        refine a_iload_n C dX12_byTurns_70 rfl 3 rfl ?_
        obtain rfl := sp1 e
        exact a_widen (Nat.le_refl _) (Nat.le_refl _) (a_sub [1, 2, 3, 4, 5, 0] rfl jj33)
      · have e := iN c31 e
        refine a_iconst (v := (0 : Int32)) C dX12_byTurns_66 (by decide) ?_
        refine a_goto (tgt := 71) C dX12_byTurns_67 (by decide) ?_
        obtain rfl := sp1 e
        exact a_widen (Nat.le_refl _) (Nat.le_refl _) (a_sub [1, 2, 3, 4, 5, 0] rfl jj33)
set_option maxRecDepth 100000 in
set_option maxHeartbeats 4000000 in
theorem k_X12_byTurns {lo : Nat} {h : Hp} {x0 : Nat} {x1 : Int32} {r : Int32} {h' : Hp} (e : f_X12_byTurns h x0 x1 = some (r, h')) : ∀ l d, AC l d lo yX12_byTurns cX12_byTurns 10 (some .int) ({ frames := 7, cells := 0, slots := 0, locals := 164 } : Room) [.ref (lo + x0), .int x1] h (some (.int r)) h' := by
  intro l d
  refine AC_of (by decide) (Nat.le_of_ble_eq_true rfl) ?_
  intro G C _ _ q
  unfold f_X12_byTurns at e
  show AW G lo 0 0 0 [(0, .ref (lo + x0)), (1, .int x1)] [] h
  refine a_aload_n C dX12_byTurns_0 rfl 0 rfl ?_
  refine a_iconst (v := (0 : Int32)) C dX12_byTurns_1 (by decide) ?_
  obtain ⟨h2, e1, e⟩ := bA_some e
  refine a_putI C cb11 0 (by decide) fl_X12_53 rfl (by decide +kernel) dX12_byTurns_2 e1 ?_
  refine a_aload_n C dX12_byTurns_5 rfl 0 rfl ?_
  obtain ⟨u9, ec8, e⟩ := bA_some e
  obtain ⟨fs7, eo6⟩ := isC_some ec8
  obtain ⟨r5, h3, e4, e⟩ := b2_some e
  refine a_callV (as := []) (rest := []) C m_X12_isThere im_X12_isThere cb11 se_X12_X12_isThere_X12_isThere ml_X12_216 rfl (Nat.le_of_ble_eq_true rfl) (Nat.le_of_ble_eq_true rfl) (Nat.le_of_ble_eq_true rfl) (Nat.le_of_ble_eq_true rfl) (Nat.le_of_ble_eq_true rfl) dX12_byTurns_6 eo6 (k_X12_isThere e4) rfl ?_
  show AW G lo 0 0 9 [(0, .ref (lo + x0)), (1, .int x1)] [.int r5] h3
  refine a_if_ne (tgt := 15) C dX12_byTurns_9 (by decide) (fun c12 => ?_) (fun c12 => ?_)
  · have e := iN c12 e
    refine a_iload_n C dX12_byTurns_15 rfl 1 rfl ?_
    refine a_i2l C dX12_byTurns_16 ?_
    refine a_lconst (v := (0 : Int64)) C dX12_byTurns_17 (by decide) ?_
    refine a_ldc2 C kL_X12_274 dX12_byTurns_18 ?_
    obtain ⟨r15, h13, e14, e⟩ := b2_some e
    refine a_callS (as := [.long x1.toInt64, .long (0 : Int64), .long (3 : Int64)]) (rest := []) C m_X12_in sm_X12_in ml_X12_63 rfl (Nat.le_of_ble_eq_true rfl) (Nat.le_of_ble_eq_true rfl) (Nat.le_of_ble_eq_true rfl) (Nat.le_of_ble_eq_true rfl) (Nat.le_of_ble_eq_true rfl) dX12_byTurns_21 (k_X12_in e14) rfl ?_
    show AW G lo 0 0 24 [(0, .ref (lo + x0)), (1, .int x1)] [.int r15] h13
    refine a_if_ne (tgt := 30) C dX12_byTurns_24 (by decide) (fun c21 => ?_) (fun c21 => ?_)
    · have e := iN c21 e
      refine a_aload_n C dX12_byTurns_30 rfl 0 rfl ?_
      obtain ⟨a23, e22, e⟩ := bA_some e
      refine a_getN C cb11 5 (by decide) fl_X12_19 rfl dX12_byTurns_31 e22 ?_
      refine a_iconst (v := (0 : Int32)) C dX12_byTurns_34 (by decide) ?_
      obtain ⟨v24, e25, e⟩ := bA_some e
      refine a_iald C dX12_byTurns_35 e25 ?_
      refine a_istore_n (lv2 := [(2, .int v24), (0, .ref (lo + x0)), (1, .int x1)]) C dX12_byTurns_36 rfl (by decide) rfl ?_
      refine a_ldc C ko_X12_96 dX12_byTurns_37 ?_
      refine a_istore_n (lv2 := [(3, .int (-1000000 : Int32)), (2, .int v24), (0, .ref (lo + x0)), (1, .int x1)]) C dX12_byTurns_39 rfl (by decide) rfl ?_
      refine a_iload_n C dX12_byTurns_40 rfl 3 rfl ?_
      obtain ⟨j27, eb29, e⟩ := bA_some e
      have jj28 : AW G lo 0 0 49 [(0, .ref (lo + x0)), (1, .int x1), (2, .int v24), (3, .int (-1000000 : Int32))] [.int j27] h13 := by
        refine a_istore (lv2 := [(4, .int j27), (0, .ref (lo + x0)), (1, .int x1), (2, .int v24), (3, .int (-1000000 : Int32))]) C dX12_byTurns_49 (by decide) rfl ?_
        refine a_sub [1, 2, 3, 4, 0] rfl (w_X12_byTurns_L51 C ?_ (Nat.le_of_ble_eq_true rfl) (Nat.le_of_ble_eq_true rfl) 2000 _ _ _ e)
        intro h69 y70 y71 e
        show AW G lo 0 0 183 [(0, .ref (lo + x0)), (1, .int x1), (2, .int v24), (3, .int y70), (4, .int y71)] [] h69
        refine a_iload_n C dX12_byTurns_183 rfl 3 rfl ?_
        obtain ⟨rfl, rfl⟩ := sp2 e
        exact a_iret C q (Nat.le_of_ble_eq_true rfl) (Nat.le_of_ble_eq_true rfl) dX12_byTurns_184
      have e := eb29
      refine a_if_le (tgt := 48) C dX12_byTurns_41 (by decide) (fun c26 => ?_) (fun c26 => ?_)
      · have e := ip c26 e
        refine a_iload_n C dX12_byTurns_48 rfl 1 rfl ?_
        obtain rfl := sp1 e
        exact a_widen (Nat.le_of_ble_eq_true rfl) (Nat.le_of_ble_eq_true rfl) (a_sub [2, 3, 1, 0] rfl jj28)
      · have e := iN c26 e
        refine a_iconst (v := (0 : Int32)) C dX12_byTurns_44 (by decide) ?_
        refine a_goto (tgt := 49) C dX12_byTurns_45 (by decide) ?_
        obtain rfl := sp1 e
        exact a_widen (Nat.le_of_ble_eq_true rfl) (Nat.le_of_ble_eq_true rfl) (a_sub [2, 3, 1, 0] rfl jj28)
    · have e := ip c21 e
      refine a_ldc C ko_X12_73 dX12_byTurns_27 ?_
      obtain ⟨rfl, rfl⟩ := sp2 e
      exact a_iret C q (Nat.le_of_ble_eq_true rfl) (Nat.le_of_ble_eq_true rfl) dX12_byTurns_29
  · have e := ip c12 e
    refine a_ldc C ko_X12_219 dX12_byTurns_12 ?_
    obtain ⟨rfl, rfl⟩ := sp2 e
    exact a_iret C q (Nat.le_of_ble_eq_true rfl) (Nat.le_of_ble_eq_true rfl) dX12_byTurns_14

set_option maxRecDepth 100000 in
def f_X12_doesComeTo (h : Hp) (x0 : Nat) (x1 : Int32) (x2 : Int32) : Option (Int32 × Hp) := bA (gN h x0 11 7) fun a2 => bA (isC h x0 11) fun u9 => b2 (f_X12_goOut h x0 a2 x1) fun r5 h3 => bA (gI h3 x0 11 25) fun g13 => bA (if g13 = 0 then some r5 else bA (gI h3 x0 11 25) fun g19 => some ((1000 : Int32) + g19)) fun j15 => bA (if j15 = x2 then some (1 : Int32) else some (0 : Int32)) fun j21 => bA (bz j21) fun z24 => some (j21, h3)

theorem m_X12_doesComeTo : MI yX12_doesComeTo cX12_doesComeTo 4 (some .boolean) 2 := ⟨co_X12_doesComeTo, ini_X12, by decide, by decide +kernel⟩
set_option maxRecDepth 100000 in
set_option maxHeartbeats 4000000 in
theorem k_X12_doesComeTo {lo : Nat} {h : Hp} {x0 : Nat} {x1 : Int32} {x2 : Int32} {r : Int32} {h' : Hp} (e : f_X12_doesComeTo h x0 x1 x2 = some (r, h')) : ∀ l d, AC l d lo yX12_doesComeTo cX12_doesComeTo 4 (some .boolean) ({ frames := 6, cells := 0, slots := 0, locals := 137 } : Room) [.ref (lo + x0), .int x1, .int x2] h (some (.int r)) h' := by
  intro l d
  refine AC_of (by decide) (Nat.le_of_ble_eq_true rfl) ?_
  intro G C _ _ q
  unfold f_X12_doesComeTo at e
  show AW G lo 0 0 0 [(0, .ref (lo + x0)), (1, .int x1), (2, .int x2)] [] h
  refine a_aload_n C dX12_doesComeTo_0 rfl 0 rfl ?_
  refine a_aload_n C dX12_doesComeTo_1 rfl 0 rfl ?_
  obtain ⟨a2, e1, e⟩ := bA_some e
  refine a_getN C cb11 7 (by decide) fl_X12_25 rfl dX12_doesComeTo_2 e1 ?_
  refine a_iload_n C dX12_doesComeTo_5 rfl 1 rfl ?_
  obtain ⟨u9, ec8, e⟩ := bA_some e
  obtain ⟨fs7, eo6⟩ := isC_some ec8
  obtain ⟨r5, h3, e4, e⟩ := b2_some e
  refine a_callV (as := [.ref (lo + a2), .int x1]) (rest := []) C m_X12_goOut im_X12_goOut cb11 se_X12_X12_goOut_X12_goOut ml_X12_230 rfl (Nat.le_of_ble_eq_true rfl) (Nat.le_of_ble_eq_true rfl) (Nat.le_of_ble_eq_true rfl) (Nat.le_of_ble_eq_true rfl) (Nat.le_of_ble_eq_true rfl) dX12_doesComeTo_6 eo6 (k_X12_goOut e4) rfl ?_
  show AW G lo 0 0 9 [(0, .ref (lo + x0)), (1, .int x1), (2, .int x2)] [.int r5] h3
  refine a_istore_n (lv2 := [(3, .int r5), (0, .ref (lo + x0)), (1, .int x1), (2, .int x2)]) C dX12_doesComeTo_9 rfl (by decide) rfl ?_
  refine a_aload_n C dX12_doesComeTo_10 rfl 1 rfl ?_
  obtain ⟨g13, e12, e⟩ := bA_some e
  refine a_getI C cb11 25 (by decide) fl_X12_208 rfl dX12_doesComeTo_11 e12 ?_
  obtain ⟨j15, eb17, e⟩ := bA_some e
  have jj16 : AW G lo 0 0 29 [(0, .ref (lo + x0)), (1, .int x1), (2, .int x2), (3, .int r5)] [.int j15] h3 := by
    refine a_iload_n C dX12_doesComeTo_29 rfl 2 rfl ?_
    obtain ⟨j21, eb23, e⟩ := bA_some e
    have jj22 : AW G lo 0 0 38 [(0, .ref (lo + x0)), (1, .int x1), (2, .int x2), (3, .int r5)] [.int j21] h3 := by
      obtain ⟨z24, e25, e⟩ := bA_some e
      obtain ⟨rfl, rfl⟩ := sp2 e
      exact a_zret C q (bz_some e25) (Nat.le_of_ble_eq_true rfl) (Nat.le_of_ble_eq_true rfl) dX12_doesComeTo_38
    have e := eb23
    refine a_icmp_ne (tgt := 37) C dX12_doesComeTo_30 (by decide) (fun c20 => ?_) (fun c20 => ?_)
    · have e := iN c20 e
      refine a_iconst (v := (0 : Int32)) C dX12_doesComeTo_37 (by decide) ?_
      obtain rfl := sp1 e
      exact a_widen (Nat.le_of_ble_eq_true rfl) (Nat.le_of_ble_eq_true rfl) (a_sub [0, 1, 2, 3] rfl jj22)
    · have e := ip c20 e
      refine a_iconst (v := (1 : Int32)) C dX12_doesComeTo_33 (by decide) ?_
      refine a_goto (tgt := 38) C dX12_doesComeTo_34 (by decide) ?_
      obtain rfl := sp1 e
      exact a_widen (Nat.le_of_ble_eq_true rfl) (Nat.le_of_ble_eq_true rfl) (a_sub [0, 1, 2, 3] rfl jj22)
  have e := eb17
  refine a_if_ne (tgt := 21) C dX12_doesComeTo_14 (by decide) (fun c14 => ?_) (fun c14 => ?_)
  · have e := iN c14 e
    refine a_sipush (v := (1000 : Int32)) C dX12_doesComeTo_21 (by decide) ?_
    refine a_aload_n C dX12_doesComeTo_24 rfl 1 rfl ?_
    obtain ⟨g19, e18, e⟩ := bA_some e
    refine a_getI C cb11 25 (by decide) fl_X12_208 rfl dX12_doesComeTo_25 e18 ?_
    refine a_iadd C dX12_doesComeTo_28 ?_
    obtain rfl := sp1 e
    exact a_widen (Nat.le_of_ble_eq_true rfl) (Nat.le_of_ble_eq_true rfl) (a_sub [1, 2, 3, 0] rfl jj16)
  · have e := ip c14 e
    refine a_iload_n C dX12_doesComeTo_17 rfl 0 rfl ?_
    refine a_goto (tgt := 29) C dX12_doesComeTo_18 (by decide) ?_
    obtain rfl := sp1 e
    exact a_widen (Nat.le_of_ble_eq_true rfl) (Nat.le_of_ble_eq_true rfl) (a_sub [1, 2, 3, 0] rfl jj16)

set_option maxRecDepth 100000 in
def f_X12_who_L154 {β : Type} (k : Int32 → Int32 → Int32 → Int32 → Hp → Option (β)) (x0 : Nat) (x1 : Int32) (x2 : Int32) (x3 : Int32) (x4 : Int32) (x5 : Int32) (x6 : Int32) (x7 : Int32) (x8 : Int32) (x9 : Int32) : Nat → Hp → Int32 → Int32 → Int32 → Int32 → Option (β)
  | 0, _, _, _, _, _ => none
  | fuel + 1, h, x10, x11, x12, x13 => (if x9 < x13 then k x10 x11 x12 x13 h else bA (isC h x0 11) fun u74 => bA (f_X12_layThen h x0 ) fun h68 => bA (gN h68 x0 11 7) fun a78 => bA (ast h68 a78 0 x8 x13) fun h79 => bA (isC h79 x0 11) fun u87 => b2 (f_X12_doesComeTo h79 x0 x5 x6) fun r83 h81 => b3 (if r83 = 0 then some (x10, x11, x12) else bA (if (2 : Int32) ≤ x2 then some (0 : Int32) else some ((1 : Int32) <<< (x13 &&& 31))) fun j97 => bA (if x11 = 0 then some x13 else some x12) fun j101 => some ((x10 ||| j97), (x11 + (1 : Int32)), j101)) fun j91 j92 j93 => f_X12_who_L154 k x0 x1 x2 x3 x4 x5 x6 x7 x8 x9 fuel h81 j91 j92 j93 (x13 + (1 : Int32)))

set_option maxRecDepth 100000 in
def f_X12_who (h : Hp) (x0 : Nat) (x1 : Int32) (x2 : Int32) (x3 : Int32) (x4 : Int32) (x5 : Int32) (x6 : Int32) : Option (Int32 × Hp) := bA (pV h x0 11 0 (.inl (0 : Int32))) fun h2 => bA (isC h2 x0 11) fun u9 => b2 (f_X12_isDoor h2 x0 x1) fun r5 h3 => (if r5 = 0 then some ((-1000001 : Int32), h3) else b2 (f_X12_in h3 x2.toInt64 (0 : Int64) (3 : Int64)) fun r15 h13 => (if r15 = 0 then some ((-1000001 : Int32), h13) else b2 (f_X12_isErrand h13 x3 x5) fun r24 h22 => (if r24 = 0 then some ((-1000001 : Int32), h22) else b2 (f_X12_in h22 x6.toInt64 (0 : Int64) (160 : Int64)) fun r33 h31 => (if r33 = 0 then b2 (f_X12_in h31 x6.toInt64 (1006 : Int64) (1011 : Int64)) fun r116 h114 => (if r116 = 0 then some ((-1000001 : Int32), h114) else bA (isC h114 x0 11) fun u129 => b2 (f_X12_rowFound h114 x0 x3 x4 x5) fun r125 h123 => (if r125 = 0 then bA (if x2 ≤ (1 : Int32) then bA (if x2 = 0 then some (0 : Int32) else some (3 : Int32)) fun j138 => some (((14 : Int32) + ((5 : Int32) * x1)) + j138) else some (4 : Int32)) fun j134 => bA (if x2 = 0 then some (5 : Int32) else (if x2 = (1 : Int32) then some (9 : Int32) else some (63 : Int32))) fun j142 => bA (if x2 = 0 then some (1 : Int32) else some (0 : Int32)) fun j147 => f_X12_who_L154 (fun y151 y152 y153 y154 h150 => bA (if (2 : Int32) ≤ x2 then (if x2 = (2 : Int32) then some y152 else some y153) else some y151) fun j156 => some (j156, h150)) x0 x1 x2 x3 x4 x5 x6 r125 j134 j142 2000 h123 (0 : Int32) (0 : Int32) (-1000000 : Int32) j147 else some (r125, h123))) else bA (isC h31 x0 11) fun u46 => b2 (f_X12_rowFound h31 x0 x3 x4 x5) fun r42 h40 => (if r42 = 0 then bA (if x2 ≤ (1 : Int32) then bA (if x2 = 0 then some (0 : Int32) else some (3 : Int32)) fun j55 => some (((14 : Int32) + ((5 : Int32) * x1)) + j55) else some (4 : Int32)) fun j51 => bA (if x2 = 0 then some (5 : Int32) else (if x2 = (1 : Int32) then some (9 : Int32) else some (63 : Int32))) fun j59 => bA (if x2 = 0 then some (1 : Int32) else some (0 : Int32)) fun j64 => f_X12_who_L154 (fun y105 y106 y107 y108 h104 => bA (if (2 : Int32) ≤ x2 then (if x2 = (2 : Int32) then some y106 else some y107) else some y105) fun j110 => some (j110, h104)) x0 x1 x2 x3 x4 x5 x6 r42 j51 j59 2000 h40 (0 : Int32) (0 : Int32) (-1000000 : Int32) j64 else some (r42, h40))))))

theorem m_X12_who : MI yX12_who cX12_who 14 (some .int) 6 := ⟨co_X12_who, ini_X12, by decide, by decide +kernel⟩
set_option maxRecDepth 100000 in
set_option maxHeartbeats 4000000 in
theorem w_X12_who_L154 {G : Gm} {lo : Nat} {ce sl : Nat} (C : CX G lo cX12_who RX12 (some .int) ({ frames := 7, cells := 0, slots := 0, locals := 160 } : Room) 14) {β : Type} {res : β} {k : Int32 → Int32 → Int32 → Int32 → Hp → Option (β)} {x0 : Nat} {x1 : Int32} {x2 : Int32} {x3 : Int32} {x4 : Int32} {x5 : Int32} {x6 : Int32} {x7 : Int32} {x8 : Int32} {x9 : Int32} (hk : ∀ (h : Hp) (x10 : Int32) (x11 : Int32) (x12 : Int32) (x13 : Int32), k x10 x11 x12 x13 h = some res → AW G lo ce sl 226 [(0, .ref (lo + x0)), (1, .int x1), (2, .int x2), (3, .int x3), (4, .int x4), (5, .int x5), (6, .int x6), (7, .int x7), (8, .int x8), (9, .int x9), (10, .int x10), (11, .int x11), (12, .int x12), (13, .int x13)] [] h) (hce : ce ≤ 0) (hsl : sl ≤ 0) : ∀ (fuel : Nat) (h : Hp) (x10 : Int32) (x11 : Int32) (x12 : Int32) (x13 : Int32), f_X12_who_L154 k x0 x1 x2 x3 x4 x5 x6 x7 x8 x9 fuel h x10 x11 x12 x13 = some res → AW G lo ce sl 154 [(0, .ref (lo + x0)), (1, .int x1), (2, .int x2), (3, .int x3), (4, .int x4), (5, .int x5), (6, .int x6), (7, .int x7), (8, .int x8), (9, .int x9), (10, .int x10), (11, .int x11), (12, .int x12), (13, .int x13)] [] h := by
  intro fuel
  induction fuel with
  | zero =>
    intro h x10 x11 x12 x13 e
    cases (show (none : Option (β)) = some res from e)
  | succ fuel ih =>
    intro h x10 x11 x12 x13 e
    rw [f_X12_who_L154] at e
    refine a_iload C dX12_who_154 13 rfl ?_
    refine a_iload C dX12_who_156 9 rfl ?_
    refine a_icmp_gt (tgt := 226) C dX12_who_158 (by decide) (fun c67 => ?_) (fun c67 => ?_)
    · have e := ip c67 e
      exact a_sub [0, 1, 2, 3, 4, 5, 6, 7, 8, 9, 10, 11, 12, 13] rfl (hk _ _ _ _ _ e)
    · have e := iN c67 e
      refine a_aload_n C dX12_who_161 rfl 0 rfl ?_
      obtain ⟨u74, ec73, e⟩ := bA_some e
      obtain ⟨fs72, eo71⟩ := isC_some ec73
      obtain ⟨h68, e69, e⟩ := bA_some e
      refine a_callV (as := []) (rest := []) C m_X12_layThen im_X12_layThen cb11 se_X12_X12_layThen_X12_layThen ml_X12_255 rfl (Nat.le_of_ble_eq_true rfl) (Nat.le_of_ble_eq_true rfl) (by exact hce) (by exact hsl) (Nat.le_of_ble_eq_true rfl) dX12_who_162 eo71 (k_X12_layThen e69) rfl ?_
      show AW G lo ce sl 165 [(0, .ref (lo + x0)), (1, .int x1), (2, .int x2), (3, .int x3), (4, .int x4), (5, .int x5), (6, .int x6), (7, .int x7), (8, .int x8), (9, .int x9), (10, .int x10), (11, .int x11), (12, .int x12), (13, .int x13)] [] h68
      refine a_aload_n C dX12_who_165 rfl 0 rfl ?_
      obtain ⟨a78, e77, e⟩ := bA_some e
      refine a_getN C cb11 7 (by decide) fl_X12_25 rfl dX12_who_166 e77 ?_
      refine a_iload C dX12_who_169 8 rfl ?_
      refine a_iload C dX12_who_171 13 rfl ?_
      obtain ⟨h79, e80, e⟩ := bA_some e
      refine a_iast C dX12_who_173 e80 ?_
      refine a_aload_n C dX12_who_174 rfl 0 rfl ?_
      refine a_iload C dX12_who_175 5 rfl ?_
      refine a_iload C dX12_who_177 6 rfl ?_
      obtain ⟨u87, ec86, e⟩ := bA_some e
      obtain ⟨fs85, eo84⟩ := isC_some ec86
      obtain ⟨r83, h81, e82, e⟩ := b2_some e
      refine a_callV (as := [.int x5, .int x6]) (rest := []) C m_X12_doesComeTo im_X12_doesComeTo cb11 se_X12_X12_doesComeTo_X12_doesComeTo ml_X12_283 rfl (Nat.le_of_ble_eq_true rfl) (Nat.le_of_ble_eq_true rfl) (by exact hce) (by exact hsl) (Nat.le_of_ble_eq_true rfl) dX12_who_179 eo84 (k_X12_doesComeTo e82) rfl ?_
      show AW G lo ce sl 182 [(0, .ref (lo + x0)), (1, .int x1), (2, .int x2), (3, .int x3), (4, .int x4), (5, .int x5), (6, .int x6), (7, .int x7), (8, .int x8), (9, .int x9), (10, .int x10), (11, .int x11), (12, .int x12), (13, .int x13)] [.int r83] h81
      obtain ⟨j91, j92, j93, eb95, e⟩ := b3_some e
      have jj94 : AW G lo ce sl 220 [(0, .ref (lo + x0)), (1, .int x1), (2, .int x2), (3, .int x3), (4, .int x4), (5, .int x5), (6, .int x6), (7, .int x7), (8, .int x8), (9, .int x9), (10, .int j91), (11, .int j92), (12, .int j93), (13, .int x13)] [] h81 := by
        refine a_iinc (v := x13 + (1 : Int32)) (lv2 := [(13, .int (x13 + (1 : Int32))), (0, .ref (lo + x0)), (1, .int x1), (2, .int x2), (3, .int x3), (4, .int x4), (5, .int x5), (6, .int x6), (7, .int x7), (8, .int x8), (9, .int x9), (10, .int j91), (11, .int j92), (12, .int j93)]) C dX12_who_220 13 rfl rfl (by decide) rfl ?_
        refine a_goto (tgt := 154) C dX12_who_223 (by decide) ?_
        exact a_sub [1, 2, 3, 4, 5, 6, 7, 8, 9, 10, 11, 12, 13, 0] rfl (ih _ _ _ _ _ e)
      have e := eb95
      refine a_if_eq (tgt := 220) C dX12_who_182 (by decide) (fun c90 => ?_) (fun c90 => ?_)
      · have e := ip c90 e
        obtain ⟨rfl, rfl, rfl⟩ := sp3 e
        exact a_widen (Nat.le_refl _) (Nat.le_refl _) (a_sub [0, 1, 2, 3, 4, 5, 6, 7, 8, 9, 10, 11, 12, 13] rfl jj94)
      · have e := iN c90 e
        refine a_iload C dX12_who_185 10 rfl ?_
        refine a_iload_n C dX12_who_187 rfl 2 rfl ?_
        refine a_iconst (v := (2 : Int32)) C dX12_who_188 (by decide) ?_
        obtain ⟨j97, eb99, e⟩ := bA_some e
        have jj98 : AW G lo ce sl 200 [(0, .ref (lo + x0)), (1, .int x1), (2, .int x2), (3, .int x3), (4, .int x4), (5, .int x5), (6, .int x6), (7, .int x7), (8, .int x8), (9, .int x9), (10, .int x10), (11, .int x11), (12, .int x12), (13, .int x13)] [.int j97, .int x10] h81 := by
          refine a_ior C dX12_who_200 ?_
          refine a_istore (lv2 := [(10, .int (x10 ||| j97)), (0, .ref (lo + x0)), (1, .int x1), (2, .int x2), (3, .int x3), (4, .int x4), (5, .int x5), (6, .int x6), (7, .int x7), (8, .int x8), (9, .int x9), (11, .int x11), (12, .int x12), (13, .int x13)]) C dX12_who_201 (by decide) rfl ?_
          refine a_iload C dX12_who_203 11 rfl ?_
          obtain ⟨j101, eb103, e⟩ := bA_some e
          have jj102 : AW G lo ce sl 215 [(0, .ref (lo + x0)), (1, .int x1), (2, .int x2), (3, .int x3), (4, .int x4), (5, .int x5), (6, .int x6), (7, .int x7), (8, .int x8), (9, .int x9), (10, .int (x10 ||| j97)), (11, .int x11), (12, .int x12), (13, .int x13)] [.int j101] h81 := by
            refine a_istore (lv2 := [(12, .int j101), (0, .ref (lo + x0)), (1, .int x1), (2, .int x2), (3, .int x3), (4, .int x4), (5, .int x5), (6, .int x6), (7, .int x7), (8, .int x8), (9, .int x9), (10, .int (x10 ||| j97)), (11, .int x11), (13, .int x13)]) C dX12_who_215 (by decide) rfl ?_
            refine a_iinc (v := x11 + (1 : Int32)) (lv2 := [(11, .int (x11 + (1 : Int32))), (12, .int j101), (0, .ref (lo + x0)), (1, .int x1), (2, .int x2), (3, .int x3), (4, .int x4), (5, .int x5), (6, .int x6), (7, .int x7), (8, .int x8), (9, .int x9), (10, .int (x10 ||| j97)), (13, .int x13)]) C dX12_who_217 12 rfl rfl (by decide) rfl ?_
            obtain ⟨rfl, rfl, rfl⟩ := sp3 e
            exact a_widen (Nat.le_refl _) (Nat.le_refl _) (a_sub [2, 3, 4, 5, 6, 7, 8, 9, 10, 11, 12, 0, 1, 13] rfl jj94)
          have e := eb103
          refine a_if_ne (tgt := 213) C dX12_who_205 (by decide) (fun c100 => ?_) (fun c100 => ?_)
          · have e := iN c100 e
            refine a_iload C dX12_who_213 12 rfl ?_
            obtain rfl := sp1 e
            exact a_widen (Nat.le_refl _) (Nat.le_refl _) (a_sub [1, 2, 3, 4, 5, 6, 7, 8, 9, 10, 0, 11, 12, 13] rfl jj102)
          · have e := ip c100 e
            refine a_iload C dX12_who_208 13 rfl ?_
            refine a_goto (tgt := 215) C dX12_who_210 (by decide) ?_
            obtain rfl := sp1 e
            exact a_widen (Nat.le_refl _) (Nat.le_refl _) (a_sub [1, 2, 3, 4, 5, 6, 7, 8, 9, 10, 0, 11, 12, 13] rfl jj102)
        have e := eb99
        refine a_icmp_ge (tgt := 199) C dX12_who_189 (by decide) (fun c96 => ?_) (fun c96 => ?_)
        · have e := ip c96 e
          refine a_iconst (v := (0 : Int32)) C dX12_who_199 (by decide) ?_
          obtain rfl := sp1 e
          exact a_widen (Nat.le_refl _) (Nat.le_refl _) (a_sub [0, 1, 2, 3, 4, 5, 6, 7, 8, 9, 10, 11, 12, 13] rfl jj98)
        · have e := iN c96 e
          refine a_iconst (v := (1 : Int32)) C dX12_who_192 (by decide) ?_
          refine a_iload C dX12_who_193 13 rfl ?_
          refine a_ishl C dX12_who_195 ?_
          refine a_goto (tgt := 200) C dX12_who_196 (by decide) ?_
          obtain rfl := sp1 e
          exact a_widen (Nat.le_refl _) (Nat.le_refl _) (a_sub [0, 1, 2, 3, 4, 5, 6, 7, 8, 9, 10, 11, 12, 13] rfl jj98)
set_option maxRecDepth 100000 in
set_option maxHeartbeats 4000000 in
theorem k_X12_who {lo : Nat} {h : Hp} {x0 : Nat} {x1 : Int32} {x2 : Int32} {x3 : Int32} {x4 : Int32} {x5 : Int32} {x6 : Int32} {r : Int32} {h' : Hp} (e : f_X12_who h x0 x1 x2 x3 x4 x5 x6 = some (r, h')) : ∀ l d, AC l d lo yX12_who cX12_who 14 (some .int) ({ frames := 7, cells := 0, slots := 0, locals := 160 } : Room) [.ref (lo + x0), .int x1, .int x2, .int x3, .int x4, .int x5, .int x6] h (some (.int r)) h' := by
  intro l d
  refine AC_of (by decide) (Nat.le_of_ble_eq_true rfl) ?_
  intro G C _ _ q
  unfold f_X12_who at e
  show AW G lo 0 0 0 [(0, .ref (lo + x0)), (1, .int x1), (2, .int x2), (3, .int x3), (4, .int x4), (5, .int x5), (6, .int x6)] [] h
  refine a_aload_n C dX12_who_0 rfl 0 rfl ?_
  refine a_iconst (v := (0 : Int32)) C dX12_who_1 (by decide) ?_
  obtain ⟨h2, e1, e⟩ := bA_some e
  refine a_putI C cb11 0 (by decide) fl_X12_53 rfl (by decide +kernel) dX12_who_2 e1 ?_
  refine a_aload_n C dX12_who_5 rfl 0 rfl ?_
  refine a_iload_n C dX12_who_6 rfl 1 rfl ?_
  obtain ⟨u9, ec8, e⟩ := bA_some e
  obtain ⟨fs7, eo6⟩ := isC_some ec8
  obtain ⟨r5, h3, e4, e⟩ := b2_some e
  refine a_callV (as := [.int x1]) (rest := []) C m_X12_isDoor im_X12_isDoor cb11 se_X12_X12_isDoor_X12_isDoor ml_X12_236 rfl (Nat.le_of_ble_eq_true rfl) (Nat.le_of_ble_eq_true rfl) (Nat.le_of_ble_eq_true rfl) (Nat.le_of_ble_eq_true rfl) (Nat.le_of_ble_eq_true rfl) dX12_who_7 eo6 (k_X12_isDoor e4) rfl ?_
  show AW G lo 0 0 10 [(0, .ref (lo + x0)), (1, .int x1), (2, .int x2), (3, .int x3), (4, .int x4), (5, .int x5), (6, .int x6)] [.int r5] h3
  refine a_if_eq (tgt := 62) C dX12_who_10 (by decide) (fun c12 => ?_) (fun c12 => ?_)
  · have e := ip c12 e
    refine a_ldc C ko_X12_73 dX12_who_62 ?_
    obtain ⟨rfl, rfl⟩ := sp2 e
    exact a_iret C q (Nat.le_of_ble_eq_true rfl) (Nat.le_of_ble_eq_true rfl) dX12_who_64
  · have e := iN c12 e
    refine a_iload_n C dX12_who_13 rfl 2 rfl ?_
    refine a_i2l C dX12_who_14 ?_
    refine a_lconst (v := (0 : Int64)) C dX12_who_15 (by decide) ?_
    refine a_ldc2 C kL_X12_274 dX12_who_16 ?_
    obtain ⟨r15, h13, e14, e⟩ := b2_some e
    refine a_callS (as := [.long x2.toInt64, .long (0 : Int64), .long (3 : Int64)]) (rest := []) C m_X12_in sm_X12_in ml_X12_63 rfl (Nat.le_of_ble_eq_true rfl) (Nat.le_of_ble_eq_true rfl) (Nat.le_of_ble_eq_true rfl) (Nat.le_of_ble_eq_true rfl) (Nat.le_of_ble_eq_true rfl) dX12_who_19 (k_X12_in e14) rfl ?_
    show AW G lo 0 0 22 [(0, .ref (lo + x0)), (1, .int x1), (2, .int x2), (3, .int x3), (4, .int x4), (5, .int x5), (6, .int x6)] [.int r15] h13
    refine a_if_eq (tgt := 62) C dX12_who_22 (by decide) (fun c21 => ?_) (fun c21 => ?_)
    · have e := ip c21 e
      refine a_ldc C ko_X12_73 dX12_who_62 ?_
      obtain ⟨rfl, rfl⟩ := sp2 e
      exact a_iret C q (Nat.le_of_ble_eq_true rfl) (Nat.le_of_ble_eq_true rfl) dX12_who_64
    · have e := iN c21 e
      refine a_iload_n C dX12_who_25 rfl 3 rfl ?_
      refine a_iload C dX12_who_26 5 rfl ?_
      obtain ⟨r24, h22, e23, e⟩ := b2_some e
      refine a_callS (as := [.int x3, .int x5]) (rest := []) C m_X12_isErrand sm_X12_isErrand ml_X12_220 rfl (Nat.le_of_ble_eq_true rfl) (Nat.le_of_ble_eq_true rfl) (Nat.le_of_ble_eq_true rfl) (Nat.le_of_ble_eq_true rfl) (Nat.le_of_ble_eq_true rfl) dX12_who_28 (k_X12_isErrand e23) rfl ?_
      show AW G lo 0 0 31 [(0, .ref (lo + x0)), (1, .int x1), (2, .int x2), (3, .int x3), (4, .int x4), (5, .int x5), (6, .int x6)] [.int r24] h22
      refine a_if_eq (tgt := 62) C dX12_who_31 (by decide) (fun c30 => ?_) (fun c30 => ?_)
      · have e := ip c30 e
        refine a_ldc C ko_X12_73 dX12_who_62 ?_
        obtain ⟨rfl, rfl⟩ := sp2 e
        exact a_iret C q (Nat.le_of_ble_eq_true rfl) (Nat.le_of_ble_eq_true rfl) dX12_who_64
      · have e := iN c30 e
        refine a_iload C dX12_who_34 6 rfl ?_
        refine a_i2l C dX12_who_36 ?_
        refine a_lconst (v := (0 : Int64)) C dX12_who_37 (by decide) ?_
        refine a_ldc2 C kL_X12_270 dX12_who_38 ?_
        obtain ⟨r33, h31, e32, e⟩ := b2_some e
        refine a_callS (as := [.long x6.toInt64, .long (0 : Int64), .long (160 : Int64)]) (rest := []) C m_X12_in sm_X12_in ml_X12_63 rfl (Nat.le_of_ble_eq_true rfl) (Nat.le_of_ble_eq_true rfl) (Nat.le_of_ble_eq_true rfl) (Nat.le_of_ble_eq_true rfl) (Nat.le_of_ble_eq_true rfl) dX12_who_41 (k_X12_in e32) rfl ?_
        show AW G lo 0 0 44 [(0, .ref (lo + x0)), (1, .int x1), (2, .int x2), (3, .int x3), (4, .int x4), (5, .int x5), (6, .int x6)] [.int r33] h31
        refine a_if_ne (tgt := 65) C dX12_who_44 (by decide) (fun c39 => ?_) (fun c39 => ?_)
        · have e := iN c39 e
          refine a_aload_n C dX12_who_65 rfl 0 rfl ?_
          refine a_iload_n C dX12_who_66 rfl 3 rfl ?_
          refine a_iload C dX12_who_67 4 rfl ?_
          refine a_iload C dX12_who_69 5 rfl ?_
          obtain ⟨u46, ec45, e⟩ := bA_some e
          obtain ⟨fs44, eo43⟩ := isC_some ec45
          obtain ⟨r42, h40, e41, e⟩ := b2_some e
          refine a_callV (as := [.int x3, .int x4, .int x5]) (rest := []) C m_X12_rowFound im_X12_rowFound cb11 se_X12_X12_rowFound_X12_rowFound ml_X12_223 rfl (Nat.le_of_ble_eq_true rfl) (Nat.le_of_ble_eq_true rfl) (Nat.le_of_ble_eq_true rfl) (Nat.le_of_ble_eq_true rfl) (Nat.le_of_ble_eq_true rfl) dX12_who_71 eo43 (k_X12_rowFound e41) rfl ?_
          show AW G lo 0 0 74 [(0, .ref (lo + x0)), (1, .int x1), (2, .int x2), (3, .int x3), (4, .int x4), (5, .int x5), (6, .int x6)] [.int r42] h40
          refine a_istore (lv2 := [(7, .int r42), (0, .ref (lo + x0)), (1, .int x1), (2, .int x2), (3, .int x3), (4, .int x4), (5, .int x5), (6, .int x6)]) C dX12_who_74 (by decide) rfl ?_
          refine a_iload C dX12_who_76 0 rfl ?_
          refine a_if_eq (tgt := 84) C dX12_who_78 (by decide) (fun c49 => ?_) (fun c49 => ?_)
          · have e := ip c49 e
            refine a_iload_n C dX12_who_84 rfl 3 rfl ?_
            refine a_iconst (v := (1 : Int32)) C dX12_who_85 (by decide) ?_
            obtain ⟨j51, eb53, e⟩ := bA_some e
            have jj52 : AW G lo 0 0 109 [(0, .ref (lo + x0)), (1, .int x1), (2, .int x2), (3, .int x3), (4, .int x4), (5, .int x5), (6, .int x6), (7, .int r42)] [.int j51] h40 := by
              refine a_istore (lv2 := [(8, .int j51), (0, .ref (lo + x0)), (1, .int x1), (2, .int x2), (3, .int x3), (4, .int x4), (5, .int x5), (6, .int x6), (7, .int r42)]) C dX12_who_109 (by decide) rfl ?_
              refine a_iload_n C dX12_who_111 rfl 3 rfl ?_
              obtain ⟨j59, eb61, e⟩ := bA_some e
              have jj60 : AW G lo 0 0 131 [(0, .ref (lo + x0)), (1, .int x1), (2, .int x2), (3, .int x3), (4, .int x4), (5, .int x5), (6, .int x6), (7, .int r42), (8, .int j51)] [.int j59] h40 := by
                refine a_istore (lv2 := [(9, .int j59), (0, .ref (lo + x0)), (1, .int x1), (2, .int x2), (3, .int x3), (4, .int x4), (5, .int x5), (6, .int x6), (7, .int r42), (8, .int j51)]) C dX12_who_131 (by decide) rfl ?_
                refine a_iconst (v := (0 : Int32)) C dX12_who_133 (by decide) ?_
                refine a_istore (lv2 := [(10, .int (0 : Int32)), (9, .int j59), (0, .ref (lo + x0)), (1, .int x1), (2, .int x2), (3, .int x3), (4, .int x4), (5, .int x5), (6, .int x6), (7, .int r42), (8, .int j51)]) C dX12_who_134 (by decide) rfl ?_
                refine a_iconst (v := (0 : Int32)) C dX12_who_136 (by decide) ?_
                refine a_istore (lv2 := [(11, .int (0 : Int32)), (10, .int (0 : Int32)), (9, .int j59), (0, .ref (lo + x0)), (1, .int x1), (2, .int x2), (3, .int x3), (4, .int x4), (5, .int x5), (6, .int x6), (7, .int r42), (8, .int j51)]) C dX12_who_137 (by decide) rfl ?_
                refine a_ldc C ko_X12_96 dX12_who_139 ?_
                refine a_istore (lv2 := [(12, .int (-1000000 : Int32)), (11, .int (0 : Int32)), (10, .int (0 : Int32)), (9, .int j59), (0, .ref (lo + x0)), (1, .int x1), (2, .int x2), (3, .int x3), (4, .int x4), (5, .int x5), (6, .int x6), (7, .int r42), (8, .int j51)]) C dX12_who_141 (by decide) rfl ?_
                refine a_iload_n C dX12_who_143 rfl 6 rfl ?_
                obtain ⟨j64, eb66, e⟩ := bA_some e
                have jj65 : AW G lo 0 0 152 [(0, .ref (lo + x0)), (1, .int x1), (2, .int x2), (3, .int x3), (4, .int x4), (5, .int x5), (6, .int x6), (7, .int r42), (8, .int j51), (9, .int j59), (10, .int (0 : Int32)), (11, .int (0 : Int32)), (12, .int (-1000000 : Int32))] [.int j64] h40 := by
                  refine a_istore (lv2 := [(13, .int j64), (0, .ref (lo + x0)), (1, .int x1), (2, .int x2), (3, .int x3), (4, .int x4), (5, .int x5), (6, .int x6), (7, .int r42), (8, .int j51), (9, .int j59), (10, .int (0 : Int32)), (11, .int (0 : Int32)), (12, .int (-1000000 : Int32))]) C dX12_who_152 (by decide) rfl ?_
                  refine a_sub [1, 2, 3, 4, 5, 6, 7, 8, 9, 10, 11, 12, 13, 0] rfl (w_X12_who_L154 C ?_ (Nat.le_of_ble_eq_true rfl) (Nat.le_of_ble_eq_true rfl) 2000 _ _ _ _ _ e)
                  intro h104 y105 y106 y107 y108 e
                  show AW G lo 0 0 226 [(0, .ref (lo + x0)), (1, .int x1), (2, .int x2), (3, .int x3), (4, .int x4), (5, .int x5), (6, .int x6), (7, .int r42), (8, .int j51), (9, .int j59), (10, .int y105), (11, .int y106), (12, .int y107), (13, .int y108)] [] h104
                  refine a_iload_n C dX12_who_226 rfl 2 rfl ?_
                  refine a_iconst (v := (2 : Int32)) C dX12_who_227 (by decide) ?_
                  obtain ⟨j110, eb112, e⟩ := bA_some e
                  have jj111 : AW G lo 0 0 248 [(0, .ref (lo + x0)), (1, .int x1), (2, .int x2), (3, .int x3), (4, .int x4), (5, .int x5), (6, .int x6), (7, .int r42), (8, .int j51), (9, .int j59), (10, .int y105), (11, .int y106), (12, .int y107), (13, .int y108)] [.int j110] h104 := by
                    obtain ⟨rfl, rfl⟩ := sp2 e
                    exact a_iret C q (Nat.le_of_ble_eq_true rfl) (Nat.le_of_ble_eq_true rfl) dX12_who_248
                  have e := eb112
                  refine a_icmp_ge (tgt := 236) C dX12_who_228 (by decide) (fun c109 => ?_) (fun c109 => ?_)
                  · have e := ip c109 e
                    refine a_iload_n C dX12_who_236 rfl 2 rfl ?_
                    refine a_iconst (v := (2 : Int32)) C dX12_who_237 (by decide) ?_
                    refine a_icmp_ne (tgt := 246) C dX12_who_238 (by decide) (fun c113 => ?_) (fun c113 => ?_)
                    · have e := iN c113 e
                      refine a_iload C dX12_who_246 12 rfl ?_
                      obtain rfl := sp1 e
                      exact a_widen (Nat.le_of_ble_eq_true rfl) (Nat.le_of_ble_eq_true rfl) (a_sub [0, 1, 2, 3, 4, 5, 6, 7, 8, 9, 10, 11, 12, 13] rfl jj111)
                    · have e := ip c113 e
                      refine a_iload C dX12_who_241 11 rfl ?_
                      refine a_goto (tgt := 248) C dX12_who_243 (by decide) ?_
                      obtain rfl := sp1 e
                      exact a_widen (Nat.le_of_ble_eq_true rfl) (Nat.le_of_ble_eq_true rfl) (a_sub [0, 1, 2, 3, 4, 5, 6, 7, 8, 9, 10, 11, 12, 13] rfl jj111)
                  · have e := iN c109 e
                    refine a_iload C dX12_who_231 10 rfl ?_
                    refine a_goto (tgt := 248) C dX12_who_233 (by decide) ?_
                    obtain rfl := sp1 e
                    exact a_widen (Nat.le_of_ble_eq_true rfl) (Nat.le_of_ble_eq_true rfl) (a_sub [0, 1, 2, 3, 4, 5, 6, 7, 8, 9, 10, 11, 12, 13] rfl jj111)
                have e := eb66
                refine a_if_ne (tgt := 151) C dX12_who_144 (by decide) (fun c63 => ?_) (fun c63 => ?_)
                · have e := iN c63 e
                  refine a_iconst (v := (0 : Int32)) C dX12_who_151 (by decide) ?_
                  obtain rfl := sp1 e
                  exact a_widen (Nat.le_of_ble_eq_true rfl) (Nat.le_of_ble_eq_true rfl) (a_sub [4, 5, 6, 7, 8, 9, 10, 11, 12, 3, 2, 1, 0] rfl jj65)
                · have e := ip c63 e
                  refine a_iconst (v := (1 : Int32)) C dX12_who_147 (by decide) ?_
                  refine a_goto (tgt := 152) C dX12_who_148 (by decide) ?_
                  obtain rfl := sp1 e
                  exact a_widen (Nat.le_of_ble_eq_true rfl) (Nat.le_of_ble_eq_true rfl) (a_sub [4, 5, 6, 7, 8, 9, 10, 11, 12, 3, 2, 1, 0] rfl jj65)
              have e := eb61
              refine a_if_ne (tgt := 119) C dX12_who_112 (by decide) (fun c58 => ?_) (fun c58 => ?_)
              · have e := iN c58 e
                refine a_iload_n C dX12_who_119 rfl 3 rfl ?_
                refine a_iconst (v := (1 : Int32)) C dX12_who_120 (by decide) ?_
                refine a_icmp_ne (tgt := 129) C dX12_who_121 (by decide) (fun c62 => ?_) (fun c62 => ?_)
                · have e := iN c62 e
                  refine a_bipush (v := (63 : Int32)) C dX12_who_129 (by decide) ?_
                  obtain rfl := sp1 e
                  exact a_widen (Nat.le_of_ble_eq_true rfl) (Nat.le_of_ble_eq_true rfl) (a_sub [1, 2, 3, 4, 5, 6, 7, 8, 0] rfl jj60)
                · have e := ip c62 e
                  refine a_bipush (v := (9 : Int32)) C dX12_who_124 (by decide) ?_
                  refine a_goto (tgt := 131) C dX12_who_126 (by decide) ?_
                  obtain rfl := sp1 e
                  exact a_widen (Nat.le_of_ble_eq_true rfl) (Nat.le_of_ble_eq_true rfl) (a_sub [1, 2, 3, 4, 5, 6, 7, 8, 0] rfl jj60)
              · have e := ip c58 e
                refine a_iconst (v := (5 : Int32)) C dX12_who_115 (by decide) ?_
                refine a_goto (tgt := 131) C dX12_who_116 (by decide) ?_
                obtain rfl := sp1 e
                exact a_widen (Nat.le_of_ble_eq_true rfl) (Nat.le_of_ble_eq_true rfl) (a_sub [1, 2, 3, 4, 5, 6, 7, 8, 0] rfl jj60)
            have e := eb53
            refine a_icmp_le (tgt := 93) C dX12_who_86 (by decide) (fun c50 => ?_) (fun c50 => ?_)
            · have e := ip c50 e
              refine a_bipush (v := (14 : Int32)) C dX12_who_93 (by decide) ?_
              refine a_iconst (v := (5 : Int32)) C dX12_who_95 (by decide) ?_
              refine a_iload_n C dX12_who_96 rfl 2 rfl ?_
              refine a_imul C dX12_who_97 ?_
              refine a_iadd C dX12_who_98 ?_
              refine a_iload_n C dX12_who_99 rfl 3 rfl ?_
              obtain ⟨j55, eb57, e⟩ := bA_some e
              have jj56 : AW G lo 0 0 108 [(0, .ref (lo + x0)), (1, .int x1), (2, .int x2), (3, .int x3), (4, .int x4), (5, .int x5), (6, .int x6), (7, .int r42)] [.int j55, .int ((14 : Int32) + ((5 : Int32) * x1))] h40 := by
                refine a_iadd C dX12_who_108 ?_
                obtain rfl := sp1 e
                exact a_widen (Nat.le_of_ble_eq_true rfl) (Nat.le_of_ble_eq_true rfl) (a_sub [0, 1, 2, 3, 4, 5, 6, 7] rfl jj52)
              have e := eb57
              refine a_if_ne (tgt := 107) C dX12_who_100 (by decide) (fun c54 => ?_) (fun c54 => ?_)
              · have e := iN c54 e
                refine a_iconst (v := (3 : Int32)) C dX12_who_107 (by decide) ?_
                obtain rfl := sp1 e
                exact a_widen (Nat.le_of_ble_eq_true rfl) (Nat.le_of_ble_eq_true rfl) (a_sub [1, 2, 3, 4, 5, 6, 7, 0] rfl jj56)
              · have e := ip c54 e
                refine a_iconst (v := (0 : Int32)) C dX12_who_103 (by decide) ?_
                refine a_goto (tgt := 108) C dX12_who_104 (by decide) ?_
                obtain rfl := sp1 e
                exact a_widen (Nat.le_of_ble_eq_true rfl) (Nat.le_of_ble_eq_true rfl) (a_sub [1, 2, 3, 4, 5, 6, 7, 0] rfl jj56)
            · have e := iN c50 e
              refine a_iconst (v := (4 : Int32)) C dX12_who_89 (by decide) ?_
              refine a_goto (tgt := 109) C dX12_who_90 (by decide) ?_
              obtain rfl := sp1 e
              exact a_widen (Nat.le_of_ble_eq_true rfl) (Nat.le_of_ble_eq_true rfl) (a_sub [1, 2, 3, 4, 5, 6, 7, 0] rfl jj52)
          · have e := iN c49 e
            refine a_iload C dX12_who_81 0 rfl ?_
            obtain ⟨rfl, rfl⟩ := sp2 e
            exact a_iret C q (Nat.le_of_ble_eq_true rfl) (Nat.le_of_ble_eq_true rfl) dX12_who_83
        · have e := ip c39 e
          refine a_iload C dX12_who_47 6 rfl ?_
          refine a_i2l C dX12_who_49 ?_
          refine a_ldc2 C kL_X12_279 dX12_who_50 ?_
          refine a_ldc2 C kL_X12_281 dX12_who_53 ?_
          obtain ⟨r116, h114, e115, e⟩ := b2_some e
          refine a_callS (as := [.long x6.toInt64, .long (1006 : Int64), .long (1011 : Int64)]) (rest := []) C m_X12_in sm_X12_in ml_X12_63 rfl (Nat.le_of_ble_eq_true rfl) (Nat.le_of_ble_eq_true rfl) (Nat.le_of_ble_eq_true rfl) (Nat.le_of_ble_eq_true rfl) (Nat.le_of_ble_eq_true rfl) dX12_who_56 (k_X12_in e115) rfl ?_
          show AW G lo 0 0 59 [(0, .ref (lo + x0)), (1, .int x1), (2, .int x2), (3, .int x3), (4, .int x4), (5, .int x5), (6, .int x6)] [.int r116] h114
          refine a_if_ne (tgt := 65) C dX12_who_59 (by decide) (fun c122 => ?_) (fun c122 => ?_)
          · have e := iN c122 e
            refine a_aload_n C dX12_who_65 rfl 0 rfl ?_
            refine a_iload_n C dX12_who_66 rfl 3 rfl ?_
            refine a_iload C dX12_who_67 4 rfl ?_
            refine a_iload C dX12_who_69 5 rfl ?_
            obtain ⟨u129, ec128, e⟩ := bA_some e
            obtain ⟨fs127, eo126⟩ := isC_some ec128
            obtain ⟨r125, h123, e124, e⟩ := b2_some e
            refine a_callV (as := [.int x3, .int x4, .int x5]) (rest := []) C m_X12_rowFound im_X12_rowFound cb11 se_X12_X12_rowFound_X12_rowFound ml_X12_223 rfl (Nat.le_of_ble_eq_true rfl) (Nat.le_of_ble_eq_true rfl) (Nat.le_of_ble_eq_true rfl) (Nat.le_of_ble_eq_true rfl) (Nat.le_of_ble_eq_true rfl) dX12_who_71 eo126 (k_X12_rowFound e124) rfl ?_
            show AW G lo 0 0 74 [(0, .ref (lo + x0)), (1, .int x1), (2, .int x2), (3, .int x3), (4, .int x4), (5, .int x5), (6, .int x6)] [.int r125] h123
            refine a_istore (lv2 := [(7, .int r125), (0, .ref (lo + x0)), (1, .int x1), (2, .int x2), (3, .int x3), (4, .int x4), (5, .int x5), (6, .int x6)]) C dX12_who_74 (by decide) rfl ?_
            refine a_iload C dX12_who_76 0 rfl ?_
            refine a_if_eq (tgt := 84) C dX12_who_78 (by decide) (fun c132 => ?_) (fun c132 => ?_)
            · have e := ip c132 e
              refine a_iload_n C dX12_who_84 rfl 3 rfl ?_
              refine a_iconst (v := (1 : Int32)) C dX12_who_85 (by decide) ?_
              obtain ⟨j134, eb136, e⟩ := bA_some e
              have jj135 : AW G lo 0 0 109 [(0, .ref (lo + x0)), (1, .int x1), (2, .int x2), (3, .int x3), (4, .int x4), (5, .int x5), (6, .int x6), (7, .int r125)] [.int j134] h123 := by
                refine a_istore (lv2 := [(8, .int j134), (0, .ref (lo + x0)), (1, .int x1), (2, .int x2), (3, .int x3), (4, .int x4), (5, .int x5), (6, .int x6), (7, .int r125)]) C dX12_who_109 (by decide) rfl ?_
                refine a_iload_n C dX12_who_111 rfl 3 rfl ?_
                obtain ⟨j142, eb144, e⟩ := bA_some e
                have jj143 : AW G lo 0 0 131 [(0, .ref (lo + x0)), (1, .int x1), (2, .int x2), (3, .int x3), (4, .int x4), (5, .int x5), (6, .int x6), (7, .int r125), (8, .int j134)] [.int j142] h123 := by
                  refine a_istore (lv2 := [(9, .int j142), (0, .ref (lo + x0)), (1, .int x1), (2, .int x2), (3, .int x3), (4, .int x4), (5, .int x5), (6, .int x6), (7, .int r125), (8, .int j134)]) C dX12_who_131 (by decide) rfl ?_
                  refine a_iconst (v := (0 : Int32)) C dX12_who_133 (by decide) ?_
                  refine a_istore (lv2 := [(10, .int (0 : Int32)), (9, .int j142), (0, .ref (lo + x0)), (1, .int x1), (2, .int x2), (3, .int x3), (4, .int x4), (5, .int x5), (6, .int x6), (7, .int r125), (8, .int j134)]) C dX12_who_134 (by decide) rfl ?_
                  refine a_iconst (v := (0 : Int32)) C dX12_who_136 (by decide) ?_
                  refine a_istore (lv2 := [(11, .int (0 : Int32)), (10, .int (0 : Int32)), (9, .int j142), (0, .ref (lo + x0)), (1, .int x1), (2, .int x2), (3, .int x3), (4, .int x4), (5, .int x5), (6, .int x6), (7, .int r125), (8, .int j134)]) C dX12_who_137 (by decide) rfl ?_
                  refine a_ldc C ko_X12_96 dX12_who_139 ?_
                  refine a_istore (lv2 := [(12, .int (-1000000 : Int32)), (11, .int (0 : Int32)), (10, .int (0 : Int32)), (9, .int j142), (0, .ref (lo + x0)), (1, .int x1), (2, .int x2), (3, .int x3), (4, .int x4), (5, .int x5), (6, .int x6), (7, .int r125), (8, .int j134)]) C dX12_who_141 (by decide) rfl ?_
                  refine a_iload_n C dX12_who_143 rfl 6 rfl ?_
                  obtain ⟨j147, eb149, e⟩ := bA_some e
                  have jj148 : AW G lo 0 0 152 [(0, .ref (lo + x0)), (1, .int x1), (2, .int x2), (3, .int x3), (4, .int x4), (5, .int x5), (6, .int x6), (7, .int r125), (8, .int j134), (9, .int j142), (10, .int (0 : Int32)), (11, .int (0 : Int32)), (12, .int (-1000000 : Int32))] [.int j147] h123 := by
                    refine a_istore (lv2 := [(13, .int j147), (0, .ref (lo + x0)), (1, .int x1), (2, .int x2), (3, .int x3), (4, .int x4), (5, .int x5), (6, .int x6), (7, .int r125), (8, .int j134), (9, .int j142), (10, .int (0 : Int32)), (11, .int (0 : Int32)), (12, .int (-1000000 : Int32))]) C dX12_who_152 (by decide) rfl ?_
                    refine a_sub [1, 2, 3, 4, 5, 6, 7, 8, 9, 10, 11, 12, 13, 0] rfl (w_X12_who_L154 C ?_ (Nat.le_of_ble_eq_true rfl) (Nat.le_of_ble_eq_true rfl) 2000 _ _ _ _ _ e)
                    intro h150 y151 y152 y153 y154 e
                    show AW G lo 0 0 226 [(0, .ref (lo + x0)), (1, .int x1), (2, .int x2), (3, .int x3), (4, .int x4), (5, .int x5), (6, .int x6), (7, .int r125), (8, .int j134), (9, .int j142), (10, .int y151), (11, .int y152), (12, .int y153), (13, .int y154)] [] h150
                    refine a_iload_n C dX12_who_226 rfl 2 rfl ?_
                    refine a_iconst (v := (2 : Int32)) C dX12_who_227 (by decide) ?_
                    obtain ⟨j156, eb158, e⟩ := bA_some e
                    have jj157 : AW G lo 0 0 248 [(0, .ref (lo + x0)), (1, .int x1), (2, .int x2), (3, .int x3), (4, .int x4), (5, .int x5), (6, .int x6), (7, .int r125), (8, .int j134), (9, .int j142), (10, .int y151), (11, .int y152), (12, .int y153), (13, .int y154)] [.int j156] h150 := by
                      obtain ⟨rfl, rfl⟩ := sp2 e
                      exact a_iret C q (Nat.le_of_ble_eq_true rfl) (Nat.le_of_ble_eq_true rfl) dX12_who_248
                    have e := eb158
                    refine a_icmp_ge (tgt := 236) C dX12_who_228 (by decide) (fun c155 => ?_) (fun c155 => ?_)
                    · have e := ip c155 e
                      refine a_iload_n C dX12_who_236 rfl 2 rfl ?_
                      refine a_iconst (v := (2 : Int32)) C dX12_who_237 (by decide) ?_
                      refine a_icmp_ne (tgt := 246) C dX12_who_238 (by decide) (fun c159 => ?_) (fun c159 => ?_)
                      · have e := iN c159 e
                        refine a_iload C dX12_who_246 12 rfl ?_
                        obtain rfl := sp1 e
                        exact a_widen (Nat.le_of_ble_eq_true rfl) (Nat.le_of_ble_eq_true rfl) (a_sub [0, 1, 2, 3, 4, 5, 6, 7, 8, 9, 10, 11, 12, 13] rfl jj157)
                      · have e := ip c159 e
                        refine a_iload C dX12_who_241 11 rfl ?_
                        refine a_goto (tgt := 248) C dX12_who_243 (by decide) ?_
                        obtain rfl := sp1 e
                        exact a_widen (Nat.le_of_ble_eq_true rfl) (Nat.le_of_ble_eq_true rfl) (a_sub [0, 1, 2, 3, 4, 5, 6, 7, 8, 9, 10, 11, 12, 13] rfl jj157)
                    · have e := iN c155 e
                      refine a_iload C dX12_who_231 10 rfl ?_
                      refine a_goto (tgt := 248) C dX12_who_233 (by decide) ?_
                      obtain rfl := sp1 e
                      exact a_widen (Nat.le_of_ble_eq_true rfl) (Nat.le_of_ble_eq_true rfl) (a_sub [0, 1, 2, 3, 4, 5, 6, 7, 8, 9, 10, 11, 12, 13] rfl jj157)
                  have e := eb149
                  refine a_if_ne (tgt := 151) C dX12_who_144 (by decide) (fun c146 => ?_) (fun c146 => ?_)
                  · have e := iN c146 e
                    refine a_iconst (v := (0 : Int32)) C dX12_who_151 (by decide) ?_
                    obtain rfl := sp1 e
                    exact a_widen (Nat.le_of_ble_eq_true rfl) (Nat.le_of_ble_eq_true rfl) (a_sub [4, 5, 6, 7, 8, 9, 10, 11, 12, 3, 2, 1, 0] rfl jj148)
                  · have e := ip c146 e
                    refine a_iconst (v := (1 : Int32)) C dX12_who_147 (by decide) ?_
                    refine a_goto (tgt := 152) C dX12_who_148 (by decide) ?_
                    obtain rfl := sp1 e
                    exact a_widen (Nat.le_of_ble_eq_true rfl) (Nat.le_of_ble_eq_true rfl) (a_sub [4, 5, 6, 7, 8, 9, 10, 11, 12, 3, 2, 1, 0] rfl jj148)
                have e := eb144
                refine a_if_ne (tgt := 119) C dX12_who_112 (by decide) (fun c141 => ?_) (fun c141 => ?_)
                · have e := iN c141 e
                  refine a_iload_n C dX12_who_119 rfl 3 rfl ?_
                  refine a_iconst (v := (1 : Int32)) C dX12_who_120 (by decide) ?_
                  refine a_icmp_ne (tgt := 129) C dX12_who_121 (by decide) (fun c145 => ?_) (fun c145 => ?_)
                  · have e := iN c145 e
                    refine a_bipush (v := (63 : Int32)) C dX12_who_129 (by decide) ?_
                    obtain rfl := sp1 e
                    exact a_widen (Nat.le_of_ble_eq_true rfl) (Nat.le_of_ble_eq_true rfl) (a_sub [1, 2, 3, 4, 5, 6, 7, 8, 0] rfl jj143)
                  · have e := ip c145 e
                    refine a_bipush (v := (9 : Int32)) C dX12_who_124 (by decide) ?_
                    refine a_goto (tgt := 131) C dX12_who_126 (by decide) ?_
                    obtain rfl := sp1 e
                    exact a_widen (Nat.le_of_ble_eq_true rfl) (Nat.le_of_ble_eq_true rfl) (a_sub [1, 2, 3, 4, 5, 6, 7, 8, 0] rfl jj143)
                · have e := ip c141 e
                  refine a_iconst (v := (5 : Int32)) C dX12_who_115 (by decide) ?_
                  refine a_goto (tgt := 131) C dX12_who_116 (by decide) ?_
                  obtain rfl := sp1 e
                  exact a_widen (Nat.le_of_ble_eq_true rfl) (Nat.le_of_ble_eq_true rfl) (a_sub [1, 2, 3, 4, 5, 6, 7, 8, 0] rfl jj143)
              have e := eb136
              refine a_icmp_le (tgt := 93) C dX12_who_86 (by decide) (fun c133 => ?_) (fun c133 => ?_)
              · have e := ip c133 e
                refine a_bipush (v := (14 : Int32)) C dX12_who_93 (by decide) ?_
                refine a_iconst (v := (5 : Int32)) C dX12_who_95 (by decide) ?_
                refine a_iload_n C dX12_who_96 rfl 2 rfl ?_
                refine a_imul C dX12_who_97 ?_
                refine a_iadd C dX12_who_98 ?_
                refine a_iload_n C dX12_who_99 rfl 3 rfl ?_
                obtain ⟨j138, eb140, e⟩ := bA_some e
                have jj139 : AW G lo 0 0 108 [(0, .ref (lo + x0)), (1, .int x1), (2, .int x2), (3, .int x3), (4, .int x4), (5, .int x5), (6, .int x6), (7, .int r125)] [.int j138, .int ((14 : Int32) + ((5 : Int32) * x1))] h123 := by
                  refine a_iadd C dX12_who_108 ?_
                  obtain rfl := sp1 e
                  exact a_widen (Nat.le_of_ble_eq_true rfl) (Nat.le_of_ble_eq_true rfl) (a_sub [0, 1, 2, 3, 4, 5, 6, 7] rfl jj135)
                have e := eb140
                refine a_if_ne (tgt := 107) C dX12_who_100 (by decide) (fun c137 => ?_) (fun c137 => ?_)
                · have e := iN c137 e
                  refine a_iconst (v := (3 : Int32)) C dX12_who_107 (by decide) ?_
                  obtain rfl := sp1 e
                  exact a_widen (Nat.le_of_ble_eq_true rfl) (Nat.le_of_ble_eq_true rfl) (a_sub [1, 2, 3, 4, 5, 6, 7, 0] rfl jj139)
                · have e := ip c137 e
                  refine a_iconst (v := (0 : Int32)) C dX12_who_103 (by decide) ?_
                  refine a_goto (tgt := 108) C dX12_who_104 (by decide) ?_
                  obtain rfl := sp1 e
                  exact a_widen (Nat.le_of_ble_eq_true rfl) (Nat.le_of_ble_eq_true rfl) (a_sub [1, 2, 3, 4, 5, 6, 7, 0] rfl jj139)
              · have e := iN c133 e
                refine a_iconst (v := (4 : Int32)) C dX12_who_89 (by decide) ?_
                refine a_goto (tgt := 109) C dX12_who_90 (by decide) ?_
                obtain rfl := sp1 e
                exact a_widen (Nat.le_of_ble_eq_true rfl) (Nat.le_of_ble_eq_true rfl) (a_sub [1, 2, 3, 4, 5, 6, 7, 0] rfl jj135)
            · have e := iN c132 e
              refine a_iload C dX12_who_81 0 rfl ?_
              obtain ⟨rfl, rfl⟩ := sp2 e
              exact a_iret C q (Nat.le_of_ble_eq_true rfl) (Nat.le_of_ble_eq_true rfl) dX12_who_83
          · have e := ip c122 e
            refine a_ldc C ko_X12_73 dX12_who_62 ?_
            obtain ⟨rfl, rfl⟩ := sp2 e
            exact a_iret C q (Nat.le_of_ble_eq_true rfl) (Nat.le_of_ble_eq_true rfl) dX12_who_64

set_option maxRecDepth 100000 in
def f_X12_sticks_L103 {β : Type} (k : Int64 → Int64 → Int32 → Hp → Option (β)) (x0 : Nat) (x1 : Int32) (x2 : Int32) (x3 : Int32) (x4 : Int32) (x5 : Int32) (x6 : Int32) (x7 : Int32) : Nat → Hp → Int64 → Int64 → Int32 → Option (β)
  | 0, _, _, _, _ => none
  | fuel + 1, h, x8, x10, x12 => bA (gI h x0 11 21) fun g75 => (if g75 ≤ x12 then k x8 x10 x12 h else f_X12_sticks_L103 k x0 x1 x2 x3 x4 x5 x6 x7 fuel h (x8 * ((10 : Int64) - x4.toInt64)) (x10 * (10 : Int64)) (x12 + (1 : Int32)))

set_option maxRecDepth 100000 in
def f_X12_sticks_L146 {β : Type} (k : Int64 → Int64 → Hp → Option (β)) (x0 : Nat) (x1 : Int32) (x2 : Int32) (x3 : Int32) (x4 : Int32) (x5 : Int32) (x6 : Int32) (x7 : Int32) (x8 : Int64) (x10 : Int64) : Nat → Hp → Int64 → Int64 → Option (β)
  | 0, _, _, _ => none
  | fuel + 1, h, x12, x14 => (if (lg_cmp x14 (0 : Int64)) = 0 then k x12 x14 h else bA (nzL x14) fun u83 => f_X12_sticks_L146 k x0 x1 x2 x3 x4 x5 x6 x7 x8 x10 fuel h x14 (x12 - x12 / x14 * x14))

set_option maxRecDepth 100000 in
def f_X12_sticks (h : Hp) (x0 : Nat) (x1 : Int32) (x2 : Int32) (x3 : Int32) (x4 : Int32) (x5 : Int32) : Option (Int64 × Hp) := bA (pV h x0 11 0 (.inl (0 : Int32))) fun h2 => bA (isC h2 x0 11) fun u9 => b2 (f_X12_isThere h2 x0 ) fun r5 h3 => (if r5 = 0 then some ((-1000002 : Int64), h3) else b2 (f_X12_isErrand h3 x1 x3) fun r15 h13 => (if r15 = 0 then some ((-1000001 : Int64), h13) else b2 (f_X12_in h13 x4.toInt64 (0 : Int64) (10 : Int64)) fun r24 h22 => (if r24 = 0 then some ((-1000001 : Int64), h22) else b2 (f_X12_in h22 x5.toInt64 (0 : Int64) (1 : Int64)) fun r33 h31 => (if r33 = 0 then some ((-1000001 : Int64), h31) else bA (isC h31 x0 11) fun u46 => b2 (f_X12_rowFound h31 x0 x1 x2 x3) fun r42 h40 => (if r42 = 0 then bA (isC h40 x0 11) fun u56 => bA (f_X12_layThen h40 x0 ) fun h50 => bA (gN h50 x0 11 7) fun a60 => bA (isC h50 x0 11) fun u67 => b2 (f_X12_goOut h50 x0 a60 x3) fun r63 h61 => bA (if r63 ≤ 0 then some (0 : Int64) else some (1 : Int64)) fun j71 => f_X12_sticks_L103 (fun y78 y79 y80 h77 => f_X12_sticks_L146 (fun y85 y86 h84 => bA (if x5 = 0 then some y78 else some y79) fun j88 => bA (nzL y85) fun u92 => some ((j88 / y85), h84)) x0 x1 x2 x3 x4 x5 r42 r63 y78 y79 2000 h77 y78 y79) x0 x1 x2 x3 x4 x5 r42 r63 2000 h61 j71 (1 : Int64) (0 : Int32) else some (r42.toInt64, h40))))))

theorem m_X12_sticks : MI yX12_sticks cX12_sticks 18 (some .long) 5 := ⟨co_X12_sticks, ini_X12, by decide, by decide +kernel⟩
set_option maxRecDepth 100000 in
set_option maxHeartbeats 4000000 in
theorem w_X12_sticks_L103 {G : Gm} {lo : Nat} {ce sl : Nat} (C : CX G lo cX12_sticks RX12 (some .long) ({ frames := 6, cells := 0, slots := 0, locals := 137 } : Room) 18) {β : Type} {res : β} {k : Int64 → Int64 → Int32 → Hp → Option (β)} {x0 : Nat} {x1 : Int32} {x2 : Int32} {x3 : Int32} {x4 : Int32} {x5 : Int32} {x6 : Int32} {x7 : Int32} (hk : ∀ (h : Hp) (x8 : Int64) (x10 : Int64) (x12 : Int32), k x8 x10 x12 h = some res → AW G lo ce sl 138 [(0, .ref (lo + x0)), (1, .int x1), (2, .int x2), (3, .int x3), (4, .int x4), (5, .int x5), (6, .int x6), (7, .int x7), (8, .long x8), (10, .long x10), (12, .int x12)] [] h) (hce : ce ≤ 0) (hsl : sl ≤ 0) : ∀ (fuel : Nat) (h : Hp) (x8 : Int64) (x10 : Int64) (x12 : Int32), f_X12_sticks_L103 k x0 x1 x2 x3 x4 x5 x6 x7 fuel h x8 x10 x12 = some res → AW G lo ce sl 103 [(0, .ref (lo + x0)), (1, .int x1), (2, .int x2), (3, .int x3), (4, .int x4), (5, .int x5), (6, .int x6), (7, .int x7), (8, .long x8), (10, .long x10), (12, .int x12)] [] h := by
  intro fuel
  induction fuel with
  | zero =>
    intro h x8 x10 x12 e
    cases (show (none : Option (β)) = some res from e)
  | succ fuel ih =>
    intro h x8 x10 x12 e
    rw [f_X12_sticks_L103] at e
    refine a_iload C dX12_sticks_103 10 rfl ?_
    refine a_aload_n C dX12_sticks_105 rfl 0 rfl ?_
    obtain ⟨g75, e74, e⟩ := bA_some e
    refine a_getI C cb11 21 (by decide) fl_X12_171 rfl dX12_sticks_106 e74 ?_
    refine a_icmp_ge (tgt := 138) C dX12_sticks_109 (by decide) (fun c76 => ?_) (fun c76 => ?_)
    · have e := ip c76 e
      exact a_sub [0, 1, 2, 3, 4, 5, 6, 7, 8, 9, 10] rfl (hk _ _ _ _ e)
    · have e := iN c76 e
      refine a_lload C dX12_sticks_112 8 rfl ?_
      refine a_ldc2 C kL_X12_288 dX12_sticks_114 ?_
      refine a_iload C dX12_sticks_117 4 rfl ?_
      refine a_i2l C dX12_sticks_119 ?_
      refine a_lsub C dX12_sticks_120 ?_
      refine a_lmul C dX12_sticks_121 ?_
      refine a_lstore (lv2 := [(8, .long (x8 * ((10 : Int64) - x4.toInt64))), (0, .ref (lo + x0)), (1, .int x1), (2, .int x2), (3, .int x3), (4, .int x4), (5, .int x5), (6, .int x6), (7, .int x7), (10, .long x10), (12, .int x12)]) C dX12_sticks_122 (by decide) rfl ?_
      refine a_lload C dX12_sticks_124 9 rfl ?_
      refine a_ldc2 C kL_X12_288 dX12_sticks_126 ?_
      refine a_lmul C dX12_sticks_129 ?_
      refine a_lstore (lv2 := [(10, .long (x10 * (10 : Int64))), (8, .long (x8 * ((10 : Int64) - x4.toInt64))), (0, .ref (lo + x0)), (1, .int x1), (2, .int x2), (3, .int x3), (4, .int x4), (5, .int x5), (6, .int x6), (7, .int x7), (12, .int x12)]) C dX12_sticks_130 (by decide) rfl ?_
      refine a_iinc (v := x12 + (1 : Int32)) (lv2 := [(12, .int (x12 + (1 : Int32))), (10, .long (x10 * (10 : Int64))), (8, .long (x8 * ((10 : Int64) - x4.toInt64))), (0, .ref (lo + x0)), (1, .int x1), (2, .int x2), (3, .int x3), (4, .int x4), (5, .int x5), (6, .int x6), (7, .int x7)]) C dX12_sticks_132 10 rfl rfl (by decide) rfl ?_
      refine a_goto (tgt := 103) C dX12_sticks_135 (by decide) ?_
      exact a_sub [3, 4, 5, 6, 7, 8, 9, 10, 2, 1, 0] rfl (ih _ _ _ _ e)
set_option maxRecDepth 100000 in
set_option maxHeartbeats 4000000 in
theorem w_X12_sticks_L146 {G : Gm} {lo : Nat} {ce sl : Nat} (C : CX G lo cX12_sticks RX12 (some .long) ({ frames := 6, cells := 0, slots := 0, locals := 137 } : Room) 18) {β : Type} {res : β} {k : Int64 → Int64 → Hp → Option (β)} {x0 : Nat} {x1 : Int32} {x2 : Int32} {x3 : Int32} {x4 : Int32} {x5 : Int32} {x6 : Int32} {x7 : Int32} {x8 : Int64} {x10 : Int64} (hk : ∀ (h : Hp) (x12 : Int64) (x14 : Int64), k x12 x14 h = some res → AW G lo ce sl 171 [(0, .ref (lo + x0)), (1, .int x1), (2, .int x2), (3, .int x3), (4, .int x4), (5, .int x5), (6, .int x6), (7, .int x7), (8, .long x8), (10, .long x10), (12, .long x12), (14, .long x14)] [] h) (hce : ce ≤ 0) (hsl : sl ≤ 0) : ∀ (fuel : Nat) (h : Hp) (x12 : Int64) (x14 : Int64), f_X12_sticks_L146 k x0 x1 x2 x3 x4 x5 x6 x7 x8 x10 fuel h x12 x14 = some res → AW G lo ce sl 146 [(0, .ref (lo + x0)), (1, .int x1), (2, .int x2), (3, .int x3), (4, .int x4), (5, .int x5), (6, .int x6), (7, .int x7), (8, .long x8), (10, .long x10), (12, .long x12), (14, .long x14)] [] h := by
  intro fuel
  induction fuel with
  | zero =>
    intro h x12 x14 e
    cases (show (none : Option (β)) = some res from e)
  | succ fuel ih =>
    intro h x12 x14 e
    rw [f_X12_sticks_L146] at e
    refine a_lload C dX12_sticks_146 11 rfl ?_
    refine a_lconst (v := (0 : Int64)) C dX12_sticks_148 (by decide) ?_
    refine a_lcmp C dX12_sticks_149 ?_
    refine a_if_eq (tgt := 171) C dX12_sticks_150 (by decide) (fun c81 => ?_) (fun c81 => ?_)
    · have e := ip c81 e
      exact a_sub [0, 1, 2, 3, 4, 5, 6, 7, 8, 9, 10, 11] rfl (hk _ _ _ e)
    · have e := iN c81 e
      refine a_lload C dX12_sticks_153 10 rfl ?_
      refine a_lload C dX12_sticks_155 11 rfl ?_
      obtain ⟨u83, ez82, e⟩ := bA_some e
      refine a_lrem C dX12_sticks_157 (nzL_some ez82) ?_
      refine a_lstore (lv2 := [(16, .long (x12 - x12 / x14 * x14)), (0, .ref (lo + x0)), (1, .int x1), (2, .int x2), (3, .int x3), (4, .int x4), (5, .int x5), (6, .int x6), (7, .int x7), (8, .long x8), (10, .long x10), (12, .long x12), (14, .long x14)]) C dX12_sticks_158 (by decide) rfl ?_
      refine a_lload C dX12_sticks_160 12 rfl ?_
      refine a_lstore (lv2 := [(12, .long x14), (16, .long (x12 - x12 / x14 * x14)), (0, .ref (lo + x0)), (1, .int x1), (2, .int x2), (3, .int x3), (4, .int x4), (5, .int x5), (6, .int x6), (7, .int x7), (8, .long x8), (10, .long x10), (14, .long x14)]) C dX12_sticks_162 (by decide) rfl ?_
      refine a_lload C dX12_sticks_164 1 rfl ?_
      refine a_lstore (lv2 := [(14, .long (x12 - x12 / x14 * x14)), (12, .long x14), (16, .long (x12 - x12 / x14 * x14)), (0, .ref (lo + x0)), (1, .int x1), (2, .int x2), (3, .int x3), (4, .int x4), (5, .int x5), (6, .int x6), (7, .int x7), (8, .long x8), (10, .long x10)]) C dX12_sticks_166 (by decide) rfl ?_
      refine a_goto (tgt := 146) C dX12_sticks_168 (by decide) ?_
      exact a_sub [3, 4, 5, 6, 7, 8, 9, 10, 11, 12, 1, 0] rfl (ih _ _ _ e)
set_option maxRecDepth 100000 in
set_option maxHeartbeats 4000000 in
theorem k_X12_sticks {lo : Nat} {h : Hp} {x0 : Nat} {x1 : Int32} {x2 : Int32} {x3 : Int32} {x4 : Int32} {x5 : Int32} {r : Int64} {h' : Hp} (e : f_X12_sticks h x0 x1 x2 x3 x4 x5 = some (r, h')) : ∀ l d, AC l d lo yX12_sticks cX12_sticks 18 (some .long) ({ frames := 6, cells := 0, slots := 0, locals := 137 } : Room) [.ref (lo + x0), .int x1, .int x2, .int x3, .int x4, .int x5] h (some (.long r)) h' := by
  intro l d
  refine AC_of (by decide) (Nat.le_of_ble_eq_true rfl) ?_
  intro G C _ _ q
  unfold f_X12_sticks at e
  show AW G lo 0 0 0 [(0, .ref (lo + x0)), (1, .int x1), (2, .int x2), (3, .int x3), (4, .int x4), (5, .int x5)] [] h
  refine a_aload_n C dX12_sticks_0 rfl 0 rfl ?_
  refine a_iconst (v := (0 : Int32)) C dX12_sticks_1 (by decide) ?_
  obtain ⟨h2, e1, e⟩ := bA_some e
  refine a_putI C cb11 0 (by decide) fl_X12_53 rfl (by decide +kernel) dX12_sticks_2 e1 ?_
  refine a_aload_n C dX12_sticks_5 rfl 0 rfl ?_
  obtain ⟨u9, ec8, e⟩ := bA_some e
  obtain ⟨fs7, eo6⟩ := isC_some ec8
  obtain ⟨r5, h3, e4, e⟩ := b2_some e
  refine a_callV (as := []) (rest := []) C m_X12_isThere im_X12_isThere cb11 se_X12_X12_isThere_X12_isThere ml_X12_216 rfl (Nat.le_of_ble_eq_true rfl) (Nat.le_of_ble_eq_true rfl) (Nat.le_of_ble_eq_true rfl) (Nat.le_of_ble_eq_true rfl) (Nat.le_of_ble_eq_true rfl) dX12_sticks_6 eo6 (k_X12_isThere e4) rfl ?_
  show AW G lo 0 0 9 [(0, .ref (lo + x0)), (1, .int x1), (2, .int x2), (3, .int x3), (4, .int x4), (5, .int x5)] [.int r5] h3
  refine a_if_ne (tgt := 16) C dX12_sticks_9 (by decide) (fun c12 => ?_) (fun c12 => ?_)
  · have e := iN c12 e
    refine a_iload_n C dX12_sticks_16 rfl 1 rfl ?_
    refine a_iload_n C dX12_sticks_17 rfl 3 rfl ?_
    obtain ⟨r15, h13, e14, e⟩ := b2_some e
    refine a_callS (as := [.int x1, .int x3]) (rest := []) C m_X12_isErrand sm_X12_isErrand ml_X12_220 rfl (Nat.le_of_ble_eq_true rfl) (Nat.le_of_ble_eq_true rfl) (Nat.le_of_ble_eq_true rfl) (Nat.le_of_ble_eq_true rfl) (Nat.le_of_ble_eq_true rfl) dX12_sticks_18 (k_X12_isErrand e14) rfl ?_
    show AW G lo 0 0 21 [(0, .ref (lo + x0)), (1, .int x1), (2, .int x2), (3, .int x3), (4, .int x4), (5, .int x5)] [.int r15] h13
    refine a_if_eq (tgt := 48) C dX12_sticks_21 (by decide) (fun c21 => ?_) (fun c21 => ?_)
    · have e := ip c21 e
      refine a_ldc2 C kL_X12_290 dX12_sticks_48 ?_
      obtain ⟨rfl, rfl⟩ := sp2 e
      exact a_lret C q (Nat.le_of_ble_eq_true rfl) (Nat.le_of_ble_eq_true rfl) dX12_sticks_51
    · have e := iN c21 e
      refine a_iload C dX12_sticks_24 4 rfl ?_
      refine a_i2l C dX12_sticks_26 ?_
      refine a_lconst (v := (0 : Int64)) C dX12_sticks_27 (by decide) ?_
      refine a_ldc2 C kL_X12_288 dX12_sticks_28 ?_
      obtain ⟨r24, h22, e23, e⟩ := b2_some e
      refine a_callS (as := [.long x4.toInt64, .long (0 : Int64), .long (10 : Int64)]) (rest := []) C m_X12_in sm_X12_in ml_X12_63 rfl (Nat.le_of_ble_eq_true rfl) (Nat.le_of_ble_eq_true rfl) (Nat.le_of_ble_eq_true rfl) (Nat.le_of_ble_eq_true rfl) (Nat.le_of_ble_eq_true rfl) dX12_sticks_31 (k_X12_in e23) rfl ?_
      show AW G lo 0 0 34 [(0, .ref (lo + x0)), (1, .int x1), (2, .int x2), (3, .int x3), (4, .int x4), (5, .int x5)] [.int r24] h22
      refine a_if_eq (tgt := 48) C dX12_sticks_34 (by decide) (fun c30 => ?_) (fun c30 => ?_)
      · have e := ip c30 e
        refine a_ldc2 C kL_X12_290 dX12_sticks_48 ?_
        obtain ⟨rfl, rfl⟩ := sp2 e
        exact a_lret C q (Nat.le_of_ble_eq_true rfl) (Nat.le_of_ble_eq_true rfl) dX12_sticks_51
      · have e := iN c30 e
        refine a_iload C dX12_sticks_37 5 rfl ?_
        refine a_i2l C dX12_sticks_39 ?_
        refine a_lconst (v := (0 : Int64)) C dX12_sticks_40 (by decide) ?_
        refine a_lconst (v := (1 : Int64)) C dX12_sticks_41 (by decide) ?_
        obtain ⟨r33, h31, e32, e⟩ := b2_some e
        refine a_callS (as := [.long x5.toInt64, .long (0 : Int64), .long (1 : Int64)]) (rest := []) C m_X12_in sm_X12_in ml_X12_63 rfl (Nat.le_of_ble_eq_true rfl) (Nat.le_of_ble_eq_true rfl) (Nat.le_of_ble_eq_true rfl) (Nat.le_of_ble_eq_true rfl) (Nat.le_of_ble_eq_true rfl) dX12_sticks_42 (k_X12_in e32) rfl ?_
        show AW G lo 0 0 45 [(0, .ref (lo + x0)), (1, .int x1), (2, .int x2), (3, .int x3), (4, .int x4), (5, .int x5)] [.int r33] h31
        refine a_if_ne (tgt := 52) C dX12_sticks_45 (by decide) (fun c39 => ?_) (fun c39 => ?_)
        · have e := iN c39 e
          refine a_aload_n C dX12_sticks_52 rfl 0 rfl ?_
          refine a_iload_n C dX12_sticks_53 rfl 1 rfl ?_
          refine a_iload_n C dX12_sticks_54 rfl 2 rfl ?_
          refine a_iload_n C dX12_sticks_55 rfl 3 rfl ?_
          obtain ⟨u46, ec45, e⟩ := bA_some e
          obtain ⟨fs44, eo43⟩ := isC_some ec45
          obtain ⟨r42, h40, e41, e⟩ := b2_some e
          refine a_callV (as := [.int x1, .int x2, .int x3]) (rest := []) C m_X12_rowFound im_X12_rowFound cb11 se_X12_X12_rowFound_X12_rowFound ml_X12_223 rfl (Nat.le_of_ble_eq_true rfl) (Nat.le_of_ble_eq_true rfl) (Nat.le_of_ble_eq_true rfl) (Nat.le_of_ble_eq_true rfl) (Nat.le_of_ble_eq_true rfl) dX12_sticks_56 eo43 (k_X12_rowFound e41) rfl ?_
          show AW G lo 0 0 59 [(0, .ref (lo + x0)), (1, .int x1), (2, .int x2), (3, .int x3), (4, .int x4), (5, .int x5)] [.int r42] h40
          refine a_istore (lv2 := [(6, .int r42), (0, .ref (lo + x0)), (1, .int x1), (2, .int x2), (3, .int x3), (4, .int x4), (5, .int x5)]) C dX12_sticks_59 (by decide) rfl ?_
          refine a_iload C dX12_sticks_61 0 rfl ?_
          refine a_if_eq (tgt := 70) C dX12_sticks_63 (by decide) (fun c49 => ?_) (fun c49 => ?_)
          · have e := ip c49 e
            refine a_aload_n C dX12_sticks_70 rfl 1 rfl ?_
            obtain ⟨u56, ec55, e⟩ := bA_some e
            obtain ⟨fs54, eo53⟩ := isC_some ec55
            obtain ⟨h50, e51, e⟩ := bA_some e
            refine a_callV (as := []) (rest := []) C m_X12_layThen im_X12_layThen cb11 se_X12_X12_layThen_X12_layThen ml_X12_255 rfl (Nat.le_of_ble_eq_true rfl) (Nat.le_of_ble_eq_true rfl) (Nat.le_of_ble_eq_true rfl) (Nat.le_of_ble_eq_true rfl) (Nat.le_of_ble_eq_true rfl) dX12_sticks_71 eo53 (k_X12_layThen e51) rfl ?_
            show AW G lo 0 0 74 [(6, .int r42), (0, .ref (lo + x0)), (1, .int x1), (2, .int x2), (3, .int x3), (4, .int x4), (5, .int x5)] [] h50
            refine a_aload_n C dX12_sticks_74 rfl 1 rfl ?_
            refine a_aload_n C dX12_sticks_75 rfl 1 rfl ?_
            obtain ⟨a60, e59, e⟩ := bA_some e
            refine a_getN C cb11 7 (by decide) fl_X12_25 rfl dX12_sticks_76 e59 ?_
            refine a_iload_n C dX12_sticks_79 rfl 4 rfl ?_
            obtain ⟨u67, ec66, e⟩ := bA_some e
            obtain ⟨fs65, eo64⟩ := isC_some ec66
            obtain ⟨r63, h61, e62, e⟩ := b2_some e
            refine a_callV (as := [.ref (lo + a60), .int x3]) (rest := []) C m_X12_goOut im_X12_goOut cb11 se_X12_X12_goOut_X12_goOut ml_X12_230 rfl (Nat.le_of_ble_eq_true rfl) (Nat.le_of_ble_eq_true rfl) (Nat.le_of_ble_eq_true rfl) (Nat.le_of_ble_eq_true rfl) (Nat.le_of_ble_eq_true rfl) dX12_sticks_80 eo64 (k_X12_goOut e62) rfl ?_
            show AW G lo 0 0 83 [(6, .int r42), (0, .ref (lo + x0)), (1, .int x1), (2, .int x2), (3, .int x3), (4, .int x4), (5, .int x5)] [.int r63] h61
            refine a_istore (lv2 := [(7, .int r63), (6, .int r42), (0, .ref (lo + x0)), (1, .int x1), (2, .int x2), (3, .int x3), (4, .int x4), (5, .int x5)]) C dX12_sticks_83 (by decide) rfl ?_
            refine a_iload C dX12_sticks_85 0 rfl ?_
            obtain ⟨j71, eb73, e⟩ := bA_some e
            have jj72 : AW G lo 0 0 95 [(0, .ref (lo + x0)), (1, .int x1), (2, .int x2), (3, .int x3), (4, .int x4), (5, .int x5), (6, .int r42), (7, .int r63)] [.long j71] h61 := by
              refine a_lstore (lv2 := [(8, .long j71), (0, .ref (lo + x0)), (1, .int x1), (2, .int x2), (3, .int x3), (4, .int x4), (5, .int x5), (6, .int r42), (7, .int r63)]) C dX12_sticks_95 (by decide) rfl ?_
              refine a_lconst (v := (1 : Int64)) C dX12_sticks_97 (by decide) ?_
              refine a_lstore (lv2 := [(10, .long (1 : Int64)), (8, .long j71), (0, .ref (lo + x0)), (1, .int x1), (2, .int x2), (3, .int x3), (4, .int x4), (5, .int x5), (6, .int r42), (7, .int r63)]) C dX12_sticks_98 (by decide) rfl ?_
              refine a_iconst (v := (0 : Int32)) C dX12_sticks_100 (by decide) ?_
              refine a_istore (lv2 := [(12, .int (0 : Int32)), (10, .long (1 : Int64)), (8, .long j71), (0, .ref (lo + x0)), (1, .int x1), (2, .int x2), (3, .int x3), (4, .int x4), (5, .int x5), (6, .int r42), (7, .int r63)]) C dX12_sticks_101 (by decide) rfl ?_
              refine a_sub [3, 4, 5, 6, 7, 8, 9, 10, 2, 1, 0] rfl (w_X12_sticks_L103 C ?_ (Nat.le_of_ble_eq_true rfl) (Nat.le_of_ble_eq_true rfl) 2000 _ _ _ _ e)
              intro h77 y78 y79 y80 e
              show AW G lo 0 0 138 [(0, .ref (lo + x0)), (1, .int x1), (2, .int x2), (3, .int x3), (4, .int x4), (5, .int x5), (6, .int r42), (7, .int r63), (8, .long y78), (10, .long y79), (12, .int y80)] [] h77
              refine a_lload C dX12_sticks_138 8 rfl ?_
              refine a_lstore (lv2 := [(12, .long y78), (0, .ref (lo + x0)), (1, .int x1), (2, .int x2), (3, .int x3), (4, .int x4), (5, .int x5), (6, .int r42), (7, .int r63), (8, .long y78), (10, .long y79)]) C dX12_sticks_140 (by decide) rfl ?_
              refine a_lload C dX12_sticks_142 10 rfl ?_
              refine a_lstore (lv2 := [(14, .long y79), (12, .long y78), (0, .ref (lo + x0)), (1, .int x1), (2, .int x2), (3, .int x3), (4, .int x4), (5, .int x5), (6, .int r42), (7, .int r63), (8, .long y78), (10, .long y79)]) C dX12_sticks_144 (by decide) rfl ?_
              refine a_sub [2, 3, 4, 5, 6, 7, 8, 9, 10, 11, 1, 0] rfl (w_X12_sticks_L146 C ?_ (Nat.le_of_ble_eq_true rfl) (Nat.le_of_ble_eq_true rfl) 2000 _ _ _ e)
              intro h84 y85 y86 e
              show AW G lo 0 0 171 [(0, .ref (lo + x0)), (1, .int x1), (2, .int x2), (3, .int x3), (4, .int x4), (5, .int x5), (6, .int r42), (7, .int r63), (8, .long y78), (10, .long y79), (12, .long y85), (14, .long y86)] [] h84
              refine a_iload C dX12_sticks_171 5 rfl ?_
              obtain ⟨j88, eb90, e⟩ := bA_some e
              have jj89 : AW G lo 0 0 183 [(0, .ref (lo + x0)), (1, .int x1), (2, .int x2), (3, .int x3), (4, .int x4), (5, .int x5), (6, .int r42), (7, .int r63), (8, .long y78), (10, .long y79), (12, .long y85), (14, .long y86)] [.long j88] h84 := by
                refine a_lload C dX12_sticks_183 10 rfl ?_
                obtain ⟨u92, ez91, e⟩ := bA_some e
                refine a_ldiv C dX12_sticks_185 (nzL_some ez91) ?_
                obtain ⟨rfl, rfl⟩ := sp2 e
                exact a_lret C q (Nat.le_of_ble_eq_true rfl) (Nat.le_of_ble_eq_true rfl) dX12_sticks_186
              have e := eb90
              refine a_if_ne (tgt := 181) C dX12_sticks_173 (by decide) (fun c87 => ?_) (fun c87 => ?_)
              · have e := iN c87 e
                refine a_lload C dX12_sticks_181 9 rfl ?_
                obtain rfl := sp1 e
                exact a_widen (Nat.le_of_ble_eq_true rfl) (Nat.le_of_ble_eq_true rfl) (a_sub [0, 1, 2, 3, 4, 5, 6, 7, 8, 9, 10, 11] rfl jj89)
              · have e := ip c87 e
                refine a_lload C dX12_sticks_176 8 rfl ?_
                refine a_goto (tgt := 183) C dX12_sticks_178 (by decide) ?_
                obtain rfl := sp1 e
                exact a_widen (Nat.le_of_ble_eq_true rfl) (Nat.le_of_ble_eq_true rfl) (a_sub [0, 1, 2, 3, 4, 5, 6, 7, 8, 9, 10, 11] rfl jj89)
            have e := eb73
            refine a_if_le (tgt := 94) C dX12_sticks_87 (by decide) (fun c70 => ?_) (fun c70 => ?_)
            · have e := ip c70 e
              refine a_lconst (v := (0 : Int64)) C dX12_sticks_94 (by decide) ?_
              obtain rfl := sp1 e
              exact a_widen (Nat.le_of_ble_eq_true rfl) (Nat.le_of_ble_eq_true rfl) (a_sub [2, 3, 4, 5, 6, 7, 1, 0] rfl jj72)
            · have e := iN c70 e
              refine a_lconst (v := (1 : Int64)) C dX12_sticks_90 (by decide) ?_
              refine a_goto (tgt := 95) C dX12_sticks_91 (by decide) ?_
              obtain rfl := sp1 e
              exact a_widen (Nat.le_of_ble_eq_true rfl) (Nat.le_of_ble_eq_true rfl) (a_sub [2, 3, 4, 5, 6, 7, 1, 0] rfl jj72)
          · have e := iN c49 e
            refine a_iload C dX12_sticks_66 0 rfl ?_
            refine a_i2l C dX12_sticks_68 ?_
            obtain ⟨rfl, rfl⟩ := sp2 e
            exact a_lret C q (Nat.le_of_ble_eq_true rfl) (Nat.le_of_ble_eq_true rfl) dX12_sticks_69
        · have e := ip c39 e
          refine a_ldc2 C kL_X12_290 dX12_sticks_48 ?_
          obtain ⟨rfl, rfl⟩ := sp2 e
          exact a_lret C q (Nat.le_of_ble_eq_true rfl) (Nat.le_of_ble_eq_true rfl) dX12_sticks_51
  · have e := ip c12 e
    refine a_ldc2 C kL_X12_286 dX12_sticks_12 ?_
    obtain ⟨rfl, rfl⟩ := sp2 e
    exact a_lret C q (Nat.le_of_ble_eq_true rfl) (Nat.le_of_ble_eq_true rfl) dX12_sticks_15

set_option maxRecDepth 100000 in
def f_X12_drawn_L69 {β : Type} (k : Int64 → Int32 → Int32 → Int32 → Hp → Option (β)) (x0 : Nat) (x1 : Int32) (x2 : Int32) (x3 : Int32) : Nat → Hp → Int64 → Int32 → Int32 → Int32 → Option (β)
  | 0, _, _, _, _, _ => none
  | fuel + 1, h, x4, x6, x7, x8 => (if x1 ≤ x8 then k x4 x6 x7 x8 h else bA (gN h x0 11 7) fun a51 => bA (ald h a51 0 (1 : Int32)) fun v52 => bA (nzL v52.toInt64) fun u55 => bA (gN h x0 11 7) fun a57 => bA (ald h a57 0 ((6 : Int32) + ((((x4 * (16807 : Int64)) - (x4 * (16807 : Int64)) / (2147483647 : Int64) * (2147483647 : Int64)) - ((x4 * (16807 : Int64)) - (x4 * (16807 : Int64)) / (2147483647 : Int64) * (2147483647 : Int64)) / v52.toInt64 * v52.toInt64).toInt32))) fun v58 => bA (if v58 = 0 then (if (lg_cmp (((x4 * (16807 : Int64)) - (x4 * (16807 : Int64)) / (2147483647 : Int64) * (2147483647 : Int64)) - ((x4 * (16807 : Int64)) - (x4 * (16807 : Int64)) / (2147483647 : Int64) * (2147483647 : Int64)) / (3 : Int64) * (3 : Int64)) (0 : Int64)) = 0 then bA (gN h x0 11 7) fun a66 => bA (ast h a66 0 ((6 : Int32) + ((((x4 * (16807 : Int64)) - (x4 * (16807 : Int64)) / (2147483647 : Int64) * (2147483647 : Int64)) - ((x4 * (16807 : Int64)) - (x4 * (16807 : Int64)) / (2147483647 : Int64) * (2147483647 : Int64)) / v52.toInt64 * v52.toInt64).toInt32)) (5 : Int32)) fun h67 => some h67 else some h) else some h) fun h61 => bA (gN h61 x0 11 19) fun a70 => bA (gN h61 x0 11 7) fun a72 => bA (ald h61 a72 0 (0 : Int32)) fun v73 => bA (nzL v73.toInt64) fun u76 => bA (ast h61 a70 0 (0 : Int32) (((((x4 * (16807 : Int64)) - (x4 * (16807 : Int64)) / (2147483647 : Int64) * (2147483647 : Int64)) / (8 : Int64)) - (((x4 * (16807 : Int64)) - (x4 * (16807 : Int64)) / (2147483647 : Int64) * (2147483647 : Int64)) / (8 : Int64)) / v73.toInt64 * v73.toInt64).toInt32)) fun h77 => bA (gN h77 x0 11 19) fun a80 => bA (gN h77 x0 11 7) fun a82 => bA (ald h77 a82 0 (0 : Int32)) fun v83 => bA (nzL v83.toInt64) fun u86 => bA (ast h77 a80 0 (1 : Int32) (((((x4 * (16807 : Int64)) - (x4 * (16807 : Int64)) / (2147483647 : Int64) * (2147483647 : Int64)) / (64 : Int64)) - (((x4 * (16807 : Int64)) - (x4 * (16807 : Int64)) / (2147483647 : Int64) * (2147483647 : Int64)) / (64 : Int64)) / v83.toInt64 * v83.toInt64).toInt32)) fun h87 => bA (gN h87 x0 11 7) fun a90 => bA (isC h87 x0 11) fun u97 => b2 (f_X12_goOut h87 x0 a90 (2 : Int32)) fun r93 h91 => bA (if r93 ≤ 0 then some (0 : Int32) else some (1 : Int32)) fun j101 => f_X12_drawn_L69 k x0 x1 x2 x3 fuel h91 ((x4 * (16807 : Int64)) - (x4 * (16807 : Int64)) / (2147483647 : Int64) * (2147483647 : Int64)) (x6 + r93) (x7 + j101) (x8 + (1 : Int32)))

set_option maxRecDepth 100000 in
def f_X12_drawn (h : Hp) (x0 : Nat) (x1 : Int32) (x2 : Int32) (x3 : Int32) : Option (Int32 × Hp) := bA (pV h x0 11 0 (.inl (0 : Int32))) fun h2 => bA (isC h2 x0 11) fun u9 => b2 (f_X12_isThere h2 x0 ) fun r5 h3 => (if r5 = 0 then some ((-1000002 : Int32), h3) else b2 (f_X12_in h3 x1.toInt64 (0 : Int64) (60 : Int64)) fun r15 h13 => (if r15 = 0 then some ((-1000001 : Int32), h13) else b2 (f_X12_in h13 x2.toInt64 (1 : Int64) (999999 : Int64)) fun r24 h22 => (if r24 = 0 then some ((-1000001 : Int32), h22) else b2 (f_X12_in h22 x3.toInt64 (0 : Int64) (1 : Int64)) fun r33 h31 => (if r33 = 0 then some ((-1000001 : Int32), h31) else bA (isC h31 x0 11) fun u46 => bA (f_X12_layThen h31 x0 ) fun h40 => f_X12_drawn_L69 (fun y105 y106 y107 y108 h104 => bA (if x3 = 0 then some y106 else some y107) fun j110 => some (j110, h104)) x0 x1 x2 x3 2000 h40 x2.toInt64 (0 : Int32) (0 : Int32) (0 : Int32)))))

theorem m_X12_drawn : MI yX12_drawn cX12_drawn 11 (some .int) 3 := ⟨co_X12_drawn, ini_X12, by decide, by decide +kernel⟩
set_option maxRecDepth 100000 in
set_option maxHeartbeats 4000000 in
theorem w_X12_drawn_L69 {G : Gm} {lo : Nat} {ce sl : Nat} (C : CX G lo cX12_drawn RX12 (some .int) ({ frames := 6, cells := 0, slots := 0, locals := 137 } : Room) 11) {β : Type} {res : β} {k : Int64 → Int32 → Int32 → Int32 → Hp → Option (β)} {x0 : Nat} {x1 : Int32} {x2 : Int32} {x3 : Int32} (hk : ∀ (h : Hp) (x4 : Int64) (x6 : Int32) (x7 : Int32) (x8 : Int32), k x4 x6 x7 x8 h = some res → AW G lo ce sl 216 [(0, .ref (lo + x0)), (1, .int x1), (2, .int x2), (3, .int x3), (4, .long x4), (6, .int x6), (7, .int x7), (8, .int x8)] [] h) (hce : ce ≤ 0) (hsl : sl ≤ 0) : ∀ (fuel : Nat) (h : Hp) (x4 : Int64) (x6 : Int32) (x7 : Int32) (x8 : Int32), f_X12_drawn_L69 k x0 x1 x2 x3 fuel h x4 x6 x7 x8 = some res → AW G lo ce sl 69 [(0, .ref (lo + x0)), (1, .int x1), (2, .int x2), (3, .int x3), (4, .long x4), (6, .int x6), (7, .int x7), (8, .int x8)] [] h := by
  intro fuel
  induction fuel with
  | zero =>
    intro h x4 x6 x7 x8 e
    cases (show (none : Option (β)) = some res from e)
  | succ fuel ih =>
    intro h x4 x6 x7 x8 e
    rw [f_X12_drawn_L69] at e
    refine a_iload C dX12_drawn_69 7 rfl ?_
    refine a_iload_n C dX12_drawn_71 rfl 1 rfl ?_
    refine a_icmp_ge (tgt := 216) C dX12_drawn_72 (by decide) (fun c49 => ?_) (fun c49 => ?_)
    · have e := ip c49 e
      exact a_sub [0, 1, 2, 3, 4, 5, 6, 7] rfl (hk _ _ _ _ _ e)
    · have e := iN c49 e
      refine a_lload C dX12_drawn_75 4 rfl ?_
      refine a_ldc2 C kL_X12_294 dX12_drawn_77 ?_
      refine a_lmul C dX12_drawn_80 ?_
      refine a_ldc2 C kL_X12_296 dX12_drawn_81 ?_
      refine a_lrem C dX12_drawn_84 (by decide) ?_
      refine a_lstore (lv2 := [(4, .long ((x4 * (16807 : Int64)) - (x4 * (16807 : Int64)) / (2147483647 : Int64) * (2147483647 : Int64))), (0, .ref (lo + x0)), (1, .int x1), (2, .int x2), (3, .int x3), (6, .int x6), (7, .int x7), (8, .int x8)]) C dX12_drawn_85 (by decide) rfl ?_
      refine a_lload C dX12_drawn_87 0 rfl ?_
      refine a_aload_n C dX12_drawn_89 rfl 1 rfl ?_
      obtain ⟨a51, e50, e⟩ := bA_some e
      refine a_getN C cb11 7 (by decide) fl_X12_25 rfl dX12_drawn_90 e50 ?_
      refine a_iconst (v := (1 : Int32)) C dX12_drawn_93 (by decide) ?_
      obtain ⟨v52, e53, e⟩ := bA_some e
      refine a_iald C dX12_drawn_94 e53 ?_
      refine a_i2l C dX12_drawn_95 ?_
      obtain ⟨u55, ez54, e⟩ := bA_some e
      refine a_lrem C dX12_drawn_96 (nzL_some ez54) ?_
      refine a_l2i C dX12_drawn_97 ?_
      refine a_istore (lv2 := [(9, .int ((((x4 * (16807 : Int64)) - (x4 * (16807 : Int64)) / (2147483647 : Int64) * (2147483647 : Int64)) - ((x4 * (16807 : Int64)) - (x4 * (16807 : Int64)) / (2147483647 : Int64) * (2147483647 : Int64)) / v52.toInt64 * v52.toInt64).toInt32)), (4, .long ((x4 * (16807 : Int64)) - (x4 * (16807 : Int64)) / (2147483647 : Int64) * (2147483647 : Int64))), (0, .ref (lo + x0)), (1, .int x1), (2, .int x2), (3, .int x3), (6, .int x6), (7, .int x7), (8, .int x8)]) C dX12_drawn_98 (by decide) rfl ?_
      refine a_aload_n C dX12_drawn_100 rfl 2 rfl ?_
      obtain ⟨a57, e56, e⟩ := bA_some e
      refine a_getN C cb11 7 (by decide) fl_X12_25 rfl dX12_drawn_101 e56 ?_
      refine a_bipush (v := (6 : Int32)) C dX12_drawn_104 (by decide) ?_
      refine a_iload C dX12_drawn_106 0 rfl ?_
      refine a_iadd C dX12_drawn_108 ?_
      obtain ⟨v58, e59, e⟩ := bA_some e
      refine a_iald C dX12_drawn_109 e59 ?_
      obtain ⟨h61, eb63, e⟩ := bA_some e
      have jj62 : AW G lo ce sl 135 [(0, .ref (lo + x0)), (1, .int x1), (2, .int x2), (3, .int x3), (4, .long ((x4 * (16807 : Int64)) - (x4 * (16807 : Int64)) / (2147483647 : Int64) * (2147483647 : Int64))), (6, .int x6), (7, .int x7), (8, .int x8), (9, .int ((((x4 * (16807 : Int64)) - (x4 * (16807 : Int64)) / (2147483647 : Int64) * (2147483647 : Int64)) - ((x4 * (16807 : Int64)) - (x4 * (16807 : Int64)) / (2147483647 : Int64) * (2147483647 : Int64)) / v52.toInt64 * v52.toInt64).toInt32))] [] h61 := by
        refine a_aload_n C dX12_drawn_135 rfl 0 rfl ?_
        obtain ⟨a70, e69, e⟩ := bA_some e
        refine a_getN C cb11 19 (by decide) fl_X12_34 rfl dX12_drawn_136 e69 ?_
        refine a_iconst (v := (0 : Int32)) C dX12_drawn_139 (by decide) ?_
        refine a_lload C dX12_drawn_140 4 rfl ?_
        refine a_ldc2 C kL_X12_214 dX12_drawn_142 ?_
        refine a_ldiv C dX12_drawn_145 (by decide) ?_
        refine a_aload_n C dX12_drawn_146 rfl 0 rfl ?_
        obtain ⟨a72, e71, e⟩ := bA_some e
        refine a_getN C cb11 7 (by decide) fl_X12_25 rfl dX12_drawn_147 e71 ?_
        refine a_iconst (v := (0 : Int32)) C dX12_drawn_150 (by decide) ?_
        obtain ⟨v73, e74, e⟩ := bA_some e
        refine a_iald C dX12_drawn_151 e74 ?_
        refine a_i2l C dX12_drawn_152 ?_
        obtain ⟨u76, ez75, e⟩ := bA_some e
        refine a_lrem C dX12_drawn_153 (nzL_some ez75) ?_
        refine a_l2i C dX12_drawn_154 ?_
        obtain ⟨h77, e78, e⟩ := bA_some e
        refine a_iast C dX12_drawn_155 e78 ?_
        refine a_aload_n C dX12_drawn_156 rfl 0 rfl ?_
        obtain ⟨a80, e79, e⟩ := bA_some e
        refine a_getN C cb11 19 (by decide) fl_X12_34 rfl dX12_drawn_157 e79 ?_
        refine a_iconst (v := (1 : Int32)) C dX12_drawn_160 (by decide) ?_
        refine a_lload C dX12_drawn_161 4 rfl ?_
        refine a_ldc2 C kL_X12_298 dX12_drawn_163 ?_
        refine a_ldiv C dX12_drawn_166 (by decide) ?_
        refine a_aload_n C dX12_drawn_167 rfl 0 rfl ?_
        obtain ⟨a82, e81, e⟩ := bA_some e
        refine a_getN C cb11 7 (by decide) fl_X12_25 rfl dX12_drawn_168 e81 ?_
        refine a_iconst (v := (0 : Int32)) C dX12_drawn_171 (by decide) ?_
        obtain ⟨v83, e84, e⟩ := bA_some e
        refine a_iald C dX12_drawn_172 e84 ?_
        refine a_i2l C dX12_drawn_173 ?_
        obtain ⟨u86, ez85, e⟩ := bA_some e
        refine a_lrem C dX12_drawn_174 (nzL_some ez85) ?_
        refine a_l2i C dX12_drawn_175 ?_
        obtain ⟨h87, e88, e⟩ := bA_some e
        refine a_iast C dX12_drawn_176 e88 ?_
        refine a_aload_n C dX12_drawn_177 rfl 0 rfl ?_
        refine a_aload_n C dX12_drawn_178 rfl 0 rfl ?_
        obtain ⟨a90, e89, e⟩ := bA_some e
        refine a_getN C cb11 7 (by decide) fl_X12_25 rfl dX12_drawn_179 e89 ?_
        refine a_iconst (v := (2 : Int32)) C dX12_drawn_182 (by decide) ?_
        obtain ⟨u97, ec96, e⟩ := bA_some e
        obtain ⟨fs95, eo94⟩ := isC_some ec96
        obtain ⟨r93, h91, e92, e⟩ := b2_some e
        refine a_callV (as := [.ref (lo + a90), .int (2 : Int32)]) (rest := []) C m_X12_goOut im_X12_goOut cb11 se_X12_X12_goOut_X12_goOut ml_X12_230 rfl (Nat.le_of_ble_eq_true rfl) (Nat.le_of_ble_eq_true rfl) (by exact hce) (by exact hsl) (Nat.le_of_ble_eq_true rfl) dX12_drawn_183 eo94 (k_X12_goOut e92) rfl ?_
        show AW G lo ce sl 186 [(0, .ref (lo + x0)), (1, .int x1), (2, .int x2), (3, .int x3), (4, .long ((x4 * (16807 : Int64)) - (x4 * (16807 : Int64)) / (2147483647 : Int64) * (2147483647 : Int64))), (6, .int x6), (7, .int x7), (8, .int x8), (9, .int ((((x4 * (16807 : Int64)) - (x4 * (16807 : Int64)) / (2147483647 : Int64) * (2147483647 : Int64)) - ((x4 * (16807 : Int64)) - (x4 * (16807 : Int64)) / (2147483647 : Int64) * (2147483647 : Int64)) / v52.toInt64 * v52.toInt64).toInt32))] [.int r93] h91
        refine a_istore (lv2 := [(10, .int r93), (0, .ref (lo + x0)), (1, .int x1), (2, .int x2), (3, .int x3), (4, .long ((x4 * (16807 : Int64)) - (x4 * (16807 : Int64)) / (2147483647 : Int64) * (2147483647 : Int64))), (6, .int x6), (7, .int x7), (8, .int x8), (9, .int ((((x4 * (16807 : Int64)) - (x4 * (16807 : Int64)) / (2147483647 : Int64) * (2147483647 : Int64)) - ((x4 * (16807 : Int64)) - (x4 * (16807 : Int64)) / (2147483647 : Int64) * (2147483647 : Int64)) / v52.toInt64 * v52.toInt64).toInt32))]) C dX12_drawn_186 (by decide) rfl ?_
        refine a_iload C dX12_drawn_188 6 rfl ?_
        refine a_iload C dX12_drawn_190 0 rfl ?_
        refine a_iadd C dX12_drawn_192 ?_
        refine a_istore (lv2 := [(6, .int (x6 + r93)), (10, .int r93), (0, .ref (lo + x0)), (1, .int x1), (2, .int x2), (3, .int x3), (4, .long ((x4 * (16807 : Int64)) - (x4 * (16807 : Int64)) / (2147483647 : Int64) * (2147483647 : Int64))), (7, .int x7), (8, .int x8), (9, .int ((((x4 * (16807 : Int64)) - (x4 * (16807 : Int64)) / (2147483647 : Int64) * (2147483647 : Int64)) - ((x4 * (16807 : Int64)) - (x4 * (16807 : Int64)) / (2147483647 : Int64) * (2147483647 : Int64)) / v52.toInt64 * v52.toInt64).toInt32))]) C dX12_drawn_193 (by decide) rfl ?_
        refine a_iload C dX12_drawn_195 7 rfl ?_
        refine a_iload C dX12_drawn_197 1 rfl ?_
        obtain ⟨j101, eb103, e⟩ := bA_some e
        have jj102 : AW G lo ce sl 207 [(0, .ref (lo + x0)), (1, .int x1), (2, .int x2), (3, .int x3), (4, .long ((x4 * (16807 : Int64)) - (x4 * (16807 : Int64)) / (2147483647 : Int64) * (2147483647 : Int64))), (6, .int (x6 + r93)), (7, .int x7), (8, .int x8), (9, .int ((((x4 * (16807 : Int64)) - (x4 * (16807 : Int64)) / (2147483647 : Int64) * (2147483647 : Int64)) - ((x4 * (16807 : Int64)) - (x4 * (16807 : Int64)) / (2147483647 : Int64) * (2147483647 : Int64)) / v52.toInt64 * v52.toInt64).toInt32)), (10, .int r93)] [.int j101, .int x7] h91 := by
          refine a_iadd C dX12_drawn_207 ?_
          refine a_istore (lv2 := [(7, .int (x7 + j101)), (0, .ref (lo + x0)), (1, .int x1), (2, .int x2), (3, .int x3), (4, .long ((x4 * (16807 : Int64)) - (x4 * (16807 : Int64)) / (2147483647 : Int64) * (2147483647 : Int64))), (6, .int (x6 + r93)), (8, .int x8), (9, .int ((((x4 * (16807 : Int64)) - (x4 * (16807 : Int64)) / (2147483647 : Int64) * (2147483647 : Int64)) - ((x4 * (16807 : Int64)) - (x4 * (16807 : Int64)) / (2147483647 : Int64) * (2147483647 : Int64)) / v52.toInt64 * v52.toInt64).toInt32)), (10, .int r93)]) C dX12_drawn_208 (by decide) rfl ?_
          refine a_iinc (v := x8 + (1 : Int32)) (lv2 := [(8, .int (x8 + (1 : Int32))), (7, .int (x7 + j101)), (0, .ref (lo + x0)), (1, .int x1), (2, .int x2), (3, .int x3), (4, .long ((x4 * (16807 : Int64)) - (x4 * (16807 : Int64)) / (2147483647 : Int64) * (2147483647 : Int64))), (6, .int (x6 + r93)), (9, .int ((((x4 * (16807 : Int64)) - (x4 * (16807 : Int64)) / (2147483647 : Int64) * (2147483647 : Int64)) - ((x4 * (16807 : Int64)) - (x4 * (16807 : Int64)) / (2147483647 : Int64) * (2147483647 : Int64)) / v52.toInt64 * v52.toInt64).toInt32)), (10, .int r93)]) C dX12_drawn_210 7 rfl rfl (by decide) rfl ?_
          refine a_goto (tgt := 69) C dX12_drawn_213 (by decide) ?_
          exact a_sub [2, 3, 4, 5, 6, 7, 1, 0] rfl (ih _ _ _ _ _ e)
        have e := eb103
        refine a_if_le (tgt := 206) C dX12_drawn_199 (by decide) (fun c100 => ?_) (fun c100 => ?_)
        · have e := ip c100 e
          refine a_iconst (v := (0 : Int32)) C dX12_drawn_206 (by decide) ?_
          obtain rfl := sp1 e
          exact a_widen (Nat.le_refl _) (Nat.le_refl _) (a_sub [2, 3, 4, 5, 6, 0, 7, 8, 9, 1] rfl jj102)
        · have e := iN c100 e
          refine a_iconst (v := (1 : Int32)) C dX12_drawn_202 (by decide) ?_
          refine a_goto (tgt := 207) C dX12_drawn_203 (by decide) ?_
          obtain rfl := sp1 e
          exact a_widen (Nat.le_refl _) (Nat.le_refl _) (a_sub [2, 3, 4, 5, 6, 0, 7, 8, 9, 1] rfl jj102)
      have e := eb63
      refine a_if_ne (tgt := 135) C dX12_drawn_110 (by decide) (fun c60 => ?_) (fun c60 => ?_)
      · have e := iN c60 e
        obtain rfl := sp1 e
        exact a_widen (Nat.le_refl _) (Nat.le_refl _) (a_sub [2, 3, 4, 5, 1, 6, 7, 8, 0] rfl jj62)
      · have e := ip c60 e
        refine a_lload C dX12_drawn_113 1 rfl ?_
        refine a_ldc2 C kL_X12_274 dX12_drawn_115 ?_
        refine a_lrem C dX12_drawn_118 (by decide) ?_
        refine a_lconst (v := (0 : Int64)) C dX12_drawn_119 (by decide) ?_
        refine a_lcmp C dX12_drawn_120 ?_
        refine a_if_ne (tgt := 135) C dX12_drawn_121 (by decide) (fun c64 => ?_) (fun c64 => ?_)
        · have e := iN c64 e
          obtain rfl := sp1 e
          exact a_widen (Nat.le_refl _) (Nat.le_refl _) (a_sub [2, 3, 4, 5, 1, 6, 7, 8, 0] rfl jj62)
        · have e := ip c64 e
          refine a_aload_n C dX12_drawn_124 rfl 2 rfl ?_
          obtain ⟨a66, e65, e⟩ := bA_some e
          refine a_getN C cb11 7 (by decide) fl_X12_25 rfl dX12_drawn_125 e65 ?_
          refine a_bipush (v := (6 : Int32)) C dX12_drawn_128 (by decide) ?_
          refine a_iload C dX12_drawn_130 0 rfl ?_
          refine a_iadd C dX12_drawn_132 ?_
          refine a_iconst (v := (5 : Int32)) C dX12_drawn_133 (by decide) ?_
          obtain ⟨h67, e68, e⟩ := bA_some e
          refine a_iast C dX12_drawn_134 e68 ?_
          obtain rfl := sp1 e
          exact a_widen (Nat.le_refl _) (Nat.le_refl _) (a_sub [2, 3, 4, 5, 1, 6, 7, 8, 0] rfl jj62)
set_option maxRecDepth 100000 in
set_option maxHeartbeats 4000000 in
theorem k_X12_drawn {lo : Nat} {h : Hp} {x0 : Nat} {x1 : Int32} {x2 : Int32} {x3 : Int32} {r : Int32} {h' : Hp} (e : f_X12_drawn h x0 x1 x2 x3 = some (r, h')) : ∀ l d, AC l d lo yX12_drawn cX12_drawn 11 (some .int) ({ frames := 6, cells := 0, slots := 0, locals := 137 } : Room) [.ref (lo + x0), .int x1, .int x2, .int x3] h (some (.int r)) h' := by
  intro l d
  refine AC_of (by decide) (Nat.le_of_ble_eq_true rfl) ?_
  intro G C _ _ q
  unfold f_X12_drawn at e
  show AW G lo 0 0 0 [(0, .ref (lo + x0)), (1, .int x1), (2, .int x2), (3, .int x3)] [] h
  refine a_aload_n C dX12_drawn_0 rfl 0 rfl ?_
  refine a_iconst (v := (0 : Int32)) C dX12_drawn_1 (by decide) ?_
  obtain ⟨h2, e1, e⟩ := bA_some e
  refine a_putI C cb11 0 (by decide) fl_X12_53 rfl (by decide +kernel) dX12_drawn_2 e1 ?_
  refine a_aload_n C dX12_drawn_5 rfl 0 rfl ?_
  obtain ⟨u9, ec8, e⟩ := bA_some e
  obtain ⟨fs7, eo6⟩ := isC_some ec8
  obtain ⟨r5, h3, e4, e⟩ := b2_some e
  refine a_callV (as := []) (rest := []) C m_X12_isThere im_X12_isThere cb11 se_X12_X12_isThere_X12_isThere ml_X12_216 rfl (Nat.le_of_ble_eq_true rfl) (Nat.le_of_ble_eq_true rfl) (Nat.le_of_ble_eq_true rfl) (Nat.le_of_ble_eq_true rfl) (Nat.le_of_ble_eq_true rfl) dX12_drawn_6 eo6 (k_X12_isThere e4) rfl ?_
  show AW G lo 0 0 9 [(0, .ref (lo + x0)), (1, .int x1), (2, .int x2), (3, .int x3)] [.int r5] h3
  refine a_if_ne (tgt := 15) C dX12_drawn_9 (by decide) (fun c12 => ?_) (fun c12 => ?_)
  · have e := iN c12 e
    refine a_iload_n C dX12_drawn_15 rfl 1 rfl ?_
    refine a_i2l C dX12_drawn_16 ?_
    refine a_lconst (v := (0 : Int64)) C dX12_drawn_17 (by decide) ?_
    refine a_ldc2 C kL_X12_251 dX12_drawn_18 ?_
    obtain ⟨r15, h13, e14, e⟩ := b2_some e
    refine a_callS (as := [.long x1.toInt64, .long (0 : Int64), .long (60 : Int64)]) (rest := []) C m_X12_in sm_X12_in ml_X12_63 rfl (Nat.le_of_ble_eq_true rfl) (Nat.le_of_ble_eq_true rfl) (Nat.le_of_ble_eq_true rfl) (Nat.le_of_ble_eq_true rfl) (Nat.le_of_ble_eq_true rfl) dX12_drawn_21 (k_X12_in e14) rfl ?_
    show AW G lo 0 0 24 [(0, .ref (lo + x0)), (1, .int x1), (2, .int x2), (3, .int x3)] [.int r15] h13
    refine a_if_eq (tgt := 49) C dX12_drawn_24 (by decide) (fun c21 => ?_) (fun c21 => ?_)
    · have e := ip c21 e
      refine a_ldc C ko_X12_73 dX12_drawn_49 ?_
      obtain ⟨rfl, rfl⟩ := sp2 e
      exact a_iret C q (Nat.le_of_ble_eq_true rfl) (Nat.le_of_ble_eq_true rfl) dX12_drawn_51
    · have e := iN c21 e
      refine a_iload_n C dX12_drawn_27 rfl 2 rfl ?_
      refine a_i2l C dX12_drawn_28 ?_
      refine a_lconst (v := (1 : Int64)) C dX12_drawn_29 (by decide) ?_
      refine a_ldc2 C kL_X12_292 dX12_drawn_30 ?_
      obtain ⟨r24, h22, e23, e⟩ := b2_some e
      refine a_callS (as := [.long x2.toInt64, .long (1 : Int64), .long (999999 : Int64)]) (rest := []) C m_X12_in sm_X12_in ml_X12_63 rfl (Nat.le_of_ble_eq_true rfl) (Nat.le_of_ble_eq_true rfl) (Nat.le_of_ble_eq_true rfl) (Nat.le_of_ble_eq_true rfl) (Nat.le_of_ble_eq_true rfl) dX12_drawn_33 (k_X12_in e23) rfl ?_
      show AW G lo 0 0 36 [(0, .ref (lo + x0)), (1, .int x1), (2, .int x2), (3, .int x3)] [.int r24] h22
      refine a_if_eq (tgt := 49) C dX12_drawn_36 (by decide) (fun c30 => ?_) (fun c30 => ?_)
      · have e := ip c30 e
        refine a_ldc C ko_X12_73 dX12_drawn_49 ?_
        obtain ⟨rfl, rfl⟩ := sp2 e
        exact a_iret C q (Nat.le_of_ble_eq_true rfl) (Nat.le_of_ble_eq_true rfl) dX12_drawn_51
      · have e := iN c30 e
        refine a_iload_n C dX12_drawn_39 rfl 3 rfl ?_
        refine a_i2l C dX12_drawn_40 ?_
        refine a_lconst (v := (0 : Int64)) C dX12_drawn_41 (by decide) ?_
        refine a_lconst (v := (1 : Int64)) C dX12_drawn_42 (by decide) ?_
        obtain ⟨r33, h31, e32, e⟩ := b2_some e
        refine a_callS (as := [.long x3.toInt64, .long (0 : Int64), .long (1 : Int64)]) (rest := []) C m_X12_in sm_X12_in ml_X12_63 rfl (Nat.le_of_ble_eq_true rfl) (Nat.le_of_ble_eq_true rfl) (Nat.le_of_ble_eq_true rfl) (Nat.le_of_ble_eq_true rfl) (Nat.le_of_ble_eq_true rfl) dX12_drawn_43 (k_X12_in e32) rfl ?_
        show AW G lo 0 0 46 [(0, .ref (lo + x0)), (1, .int x1), (2, .int x2), (3, .int x3)] [.int r33] h31
        refine a_if_ne (tgt := 52) C dX12_drawn_46 (by decide) (fun c39 => ?_) (fun c39 => ?_)
        · have e := iN c39 e
          refine a_aload_n C dX12_drawn_52 rfl 0 rfl ?_
          obtain ⟨u46, ec45, e⟩ := bA_some e
          obtain ⟨fs44, eo43⟩ := isC_some ec45
          obtain ⟨h40, e41, e⟩ := bA_some e
          refine a_callV (as := []) (rest := []) C m_X12_layThen im_X12_layThen cb11 se_X12_X12_layThen_X12_layThen ml_X12_255 rfl (Nat.le_of_ble_eq_true rfl) (Nat.le_of_ble_eq_true rfl) (Nat.le_of_ble_eq_true rfl) (Nat.le_of_ble_eq_true rfl) (Nat.le_of_ble_eq_true rfl) dX12_drawn_53 eo43 (k_X12_layThen e41) rfl ?_
          show AW G lo 0 0 56 [(0, .ref (lo + x0)), (1, .int x1), (2, .int x2), (3, .int x3)] [] h40
          refine a_iload_n C dX12_drawn_56 rfl 2 rfl ?_
          refine a_i2l C dX12_drawn_57 ?_
          refine a_lstore (lv2 := [(4, .long x2.toInt64), (0, .ref (lo + x0)), (1, .int x1), (2, .int x2), (3, .int x3)]) C dX12_drawn_58 (by decide) rfl ?_
          refine a_iconst (v := (0 : Int32)) C dX12_drawn_60 (by decide) ?_
          refine a_istore (lv2 := [(6, .int (0 : Int32)), (4, .long x2.toInt64), (0, .ref (lo + x0)), (1, .int x1), (2, .int x2), (3, .int x3)]) C dX12_drawn_61 (by decide) rfl ?_
          refine a_iconst (v := (0 : Int32)) C dX12_drawn_63 (by decide) ?_
          refine a_istore (lv2 := [(7, .int (0 : Int32)), (6, .int (0 : Int32)), (4, .long x2.toInt64), (0, .ref (lo + x0)), (1, .int x1), (2, .int x2), (3, .int x3)]) C dX12_drawn_64 (by decide) rfl ?_
          refine a_iconst (v := (0 : Int32)) C dX12_drawn_66 (by decide) ?_
          refine a_istore (lv2 := [(8, .int (0 : Int32)), (7, .int (0 : Int32)), (6, .int (0 : Int32)), (4, .long x2.toInt64), (0, .ref (lo + x0)), (1, .int x1), (2, .int x2), (3, .int x3)]) C dX12_drawn_67 (by decide) rfl ?_
          refine a_sub [4, 5, 6, 7, 3, 2, 1, 0] rfl (w_X12_drawn_L69 C ?_ (Nat.le_of_ble_eq_true rfl) (Nat.le_of_ble_eq_true rfl) 2000 _ _ _ _ _ e)
          intro h104 y105 y106 y107 y108 e
          show AW G lo 0 0 216 [(0, .ref (lo + x0)), (1, .int x1), (2, .int x2), (3, .int x3), (4, .long y105), (6, .int y106), (7, .int y107), (8, .int y108)] [] h104
          refine a_iload_n C dX12_drawn_216 rfl 3 rfl ?_
          obtain ⟨j110, eb112, e⟩ := bA_some e
          have jj111 : AW G lo 0 0 227 [(0, .ref (lo + x0)), (1, .int x1), (2, .int x2), (3, .int x3), (4, .long y105), (6, .int y106), (7, .int y107), (8, .int y108)] [.int j110] h104 := by
            obtain ⟨rfl, rfl⟩ := sp2 e
            exact a_iret C q (Nat.le_of_ble_eq_true rfl) (Nat.le_of_ble_eq_true rfl) dX12_drawn_227
          have e := eb112
          refine a_if_ne (tgt := 225) C dX12_drawn_217 (by decide) (fun c109 => ?_) (fun c109 => ?_)
          · have e := iN c109 e
            refine a_iload C dX12_drawn_225 6 rfl ?_
            obtain rfl := sp1 e
            exact a_widen (Nat.le_of_ble_eq_true rfl) (Nat.le_of_ble_eq_true rfl) (a_sub [0, 1, 2, 3, 4, 5, 6, 7] rfl jj111)
          · have e := ip c109 e
            refine a_iload C dX12_drawn_220 5 rfl ?_
            refine a_goto (tgt := 227) C dX12_drawn_222 (by decide) ?_
            obtain rfl := sp1 e
            exact a_widen (Nat.le_of_ble_eq_true rfl) (Nat.le_of_ble_eq_true rfl) (a_sub [0, 1, 2, 3, 4, 5, 6, 7] rfl jj111)
        · have e := ip c39 e
          refine a_ldc C ko_X12_73 dX12_drawn_49 ?_
          obtain ⟨rfl, rfl⟩ := sp2 e
          exact a_iret C q (Nat.le_of_ble_eq_true rfl) (Nat.le_of_ble_eq_true rfl) dX12_drawn_51
  · have e := ip c12 e
    refine a_ldc C ko_X12_219 dX12_drawn_12 ?_
    obtain ⟨rfl, rfl⟩ := sp2 e
    exact a_iret C q (Nat.le_of_ble_eq_true rfl) (Nat.le_of_ble_eq_true rfl) dX12_drawn_14

set_option maxRecDepth 100000 in
def f_X12_image_L30 {β : Type} (k : Int32 → Hp → Option (β)) (x0 : Nat) (x1 : Int32) : Nat → Hp → Int32 → Option (β)
  | 0, _, _ => none
  | fuel + 1, h, x2 => (if (54 : Int32) ≤ x2 then k x2 h else bA (gN h x0 11 29) fun a24 => bA (gN h x0 11 5) fun a26 => bA (ald h a26 0 x2) fun v27 => bA (ast h a24 0 (((54 : Int32) * x1) + x2) v27) fun h29 => f_X12_image_L30 k x0 x1 fuel h29 (x2 + (1 : Int32)))

set_option maxRecDepth 100000 in
def f_X12_image (h : Hp) (x0 : Nat) (x1 : Int32) : Option (Int32 × Hp) := bA (pV h x0 11 0 (.inl (0 : Int32))) fun h2 => b2 (f_X12_in h2 x1.toInt64 (0 : Int64) (1 : Int64)) fun r5 h3 => (if r5 = 0 then some ((-1000001 : Int32), h3) else bA (isC h3 x0 11) fun u18 => b2 (f_X12_isThere h3 x0 ) fun r14 h12 => (if r14 = 0 then some ((-1000002 : Int32), h12) else f_X12_image_L30 (fun y32 h31 => bA (gN h31 x0 11 28) fun a34 => bA (ast h31 a34 1 x1 ((1 : Int32) &&& 1)) fun h35 => some ((1 : Int32), h35)) x0 x1 2000 h12 (0 : Int32)))

theorem m_X12_image : MI yX12_image cX12_image 3 (some .int) 1 := ⟨co_X12_image, ini_X12, by decide, by decide +kernel⟩
set_option maxRecDepth 100000 in
set_option maxHeartbeats 4000000 in
theorem w_X12_image_L30 {G : Gm} {lo : Nat} {ce sl : Nat} (C : CX G lo cX12_image RX12 (some .int) ({ frames := 1, cells := 0, slots := 0, locals := 25 } : Room) 3) {β : Type} {res : β} {k : Int32 → Hp → Option (β)} {x0 : Nat} {x1 : Int32} (hk : ∀ (h : Hp) (x2 : Int32), k x2 h = some res → AW G lo ce sl 59 [(0, .ref (lo + x0)), (1, .int x1), (2, .int x2)] [] h) (hce : ce ≤ 0) (hsl : sl ≤ 0) : ∀ (fuel : Nat) (h : Hp) (x2 : Int32), f_X12_image_L30 k x0 x1 fuel h x2 = some res → AW G lo ce sl 30 [(0, .ref (lo + x0)), (1, .int x1), (2, .int x2)] [] h := by
  intro fuel
  induction fuel with
  | zero =>
    intro h x2 e
    cases (show (none : Option (β)) = some res from e)
  | succ fuel ih =>
    intro h x2 e
    rw [f_X12_image_L30] at e
    refine a_iload_n C dX12_image_30 rfl 2 rfl ?_
    refine a_bipush (v := (54 : Int32)) C dX12_image_31 (by decide) ?_
    refine a_icmp_ge (tgt := 59) C dX12_image_33 (by decide) (fun c22 => ?_) (fun c22 => ?_)
    · have e := ip c22 e
      exact a_sub [0, 1, 2] rfl (hk _ _ e)
    · have e := iN c22 e
      refine a_aload_n C dX12_image_36 rfl 0 rfl ?_
      obtain ⟨a24, e23, e⟩ := bA_some e
      refine a_getN C cb11 29 (by decide) fl_X12_47 rfl dX12_image_37 e23 ?_
      refine a_bipush (v := (54 : Int32)) C dX12_image_40 (by decide) ?_
      refine a_iload_n C dX12_image_42 rfl 1 rfl ?_
      refine a_imul C dX12_image_43 ?_
      refine a_iload_n C dX12_image_44 rfl 2 rfl ?_
      refine a_iadd C dX12_image_45 ?_
      refine a_aload_n C dX12_image_46 rfl 0 rfl ?_
      obtain ⟨a26, e25, e⟩ := bA_some e
      refine a_getN C cb11 5 (by decide) fl_X12_19 rfl dX12_image_47 e25 ?_
      refine a_iload_n C dX12_image_50 rfl 2 rfl ?_
      obtain ⟨v27, e28, e⟩ := bA_some e
      refine a_iald C dX12_image_51 e28 ?_
      obtain ⟨h29, e30, e⟩ := bA_some e
      refine a_iast C dX12_image_52 e30 ?_
      refine a_iinc (v := x2 + (1 : Int32)) (lv2 := [(2, .int (x2 + (1 : Int32))), (0, .ref (lo + x0)), (1, .int x1)]) C dX12_image_53 2 rfl rfl (by decide) rfl ?_
      refine a_goto (tgt := 30) C dX12_image_56 (by decide) ?_
      exact a_sub [1, 2, 0] rfl (ih _ _ e)
set_option maxRecDepth 100000 in
set_option maxHeartbeats 4000000 in
theorem k_X12_image {lo : Nat} {h : Hp} {x0 : Nat} {x1 : Int32} {r : Int32} {h' : Hp} (e : f_X12_image h x0 x1 = some (r, h')) : ∀ l d, AC l d lo yX12_image cX12_image 3 (some .int) ({ frames := 1, cells := 0, slots := 0, locals := 25 } : Room) [.ref (lo + x0), .int x1] h (some (.int r)) h' := by
  intro l d
  refine AC_of (by decide) (Nat.le_of_ble_eq_true rfl) ?_
  intro G C _ _ q
  unfold f_X12_image at e
  show AW G lo 0 0 0 [(0, .ref (lo + x0)), (1, .int x1)] [] h
  refine a_aload_n C dX12_image_0 rfl 0 rfl ?_
  refine a_iconst (v := (0 : Int32)) C dX12_image_1 (by decide) ?_
  obtain ⟨h2, e1, e⟩ := bA_some e
  refine a_putI C cb11 0 (by decide) fl_X12_53 rfl (by decide +kernel) dX12_image_2 e1 ?_
  refine a_iload_n C dX12_image_5 rfl 1 rfl ?_
  refine a_i2l C dX12_image_6 ?_
  refine a_lconst (v := (0 : Int64)) C dX12_image_7 (by decide) ?_
  refine a_lconst (v := (1 : Int64)) C dX12_image_8 (by decide) ?_
  obtain ⟨r5, h3, e4, e⟩ := b2_some e
  refine a_callS (as := [.long x1.toInt64, .long (0 : Int64), .long (1 : Int64)]) (rest := []) C m_X12_in sm_X12_in ml_X12_63 rfl (Nat.le_of_ble_eq_true rfl) (Nat.le_of_ble_eq_true rfl) (Nat.le_of_ble_eq_true rfl) (Nat.le_of_ble_eq_true rfl) (Nat.le_of_ble_eq_true rfl) dX12_image_9 (k_X12_in e4) rfl ?_
  show AW G lo 0 0 12 [(0, .ref (lo + x0)), (1, .int x1)] [.int r5] h3
  refine a_if_ne (tgt := 18) C dX12_image_12 (by decide) (fun c11 => ?_) (fun c11 => ?_)
  · have e := iN c11 e
    refine a_aload_n C dX12_image_18 rfl 0 rfl ?_
    obtain ⟨u18, ec17, e⟩ := bA_some e
    obtain ⟨fs16, eo15⟩ := isC_some ec17
    obtain ⟨r14, h12, e13, e⟩ := b2_some e
    refine a_callV (as := []) (rest := []) C m_X12_isThere im_X12_isThere cb11 se_X12_X12_isThere_X12_isThere ml_X12_216 rfl (Nat.le_of_ble_eq_true rfl) (Nat.le_of_ble_eq_true rfl) (Nat.le_of_ble_eq_true rfl) (Nat.le_of_ble_eq_true rfl) (Nat.le_of_ble_eq_true rfl) dX12_image_19 eo15 (k_X12_isThere e13) rfl ?_
    show AW G lo 0 0 22 [(0, .ref (lo + x0)), (1, .int x1)] [.int r14] h12
    refine a_if_ne (tgt := 28) C dX12_image_22 (by decide) (fun c21 => ?_) (fun c21 => ?_)
    · have e := iN c21 e
      refine a_iconst (v := (0 : Int32)) C dX12_image_28 (by decide) ?_
      refine a_istore_n (lv2 := [(2, .int (0 : Int32)), (0, .ref (lo + x0)), (1, .int x1)]) C dX12_image_29 rfl (by decide) rfl ?_
      refine a_sub [1, 2, 0] rfl (w_X12_image_L30 C ?_ (Nat.le_of_ble_eq_true rfl) (Nat.le_of_ble_eq_true rfl) 2000 _ _ e)
      intro h31 y32 e
      show AW G lo 0 0 59 [(0, .ref (lo + x0)), (1, .int x1), (2, .int y32)] [] h31
      refine a_aload_n C dX12_image_59 rfl 0 rfl ?_
      obtain ⟨a34, e33, e⟩ := bA_some e
      refine a_getN C cb11 28 (by decide) fl_X12_43 rfl dX12_image_60 e33 ?_
      refine a_iload_n C dX12_image_63 rfl 1 rfl ?_
      refine a_iconst (v := (1 : Int32)) C dX12_image_64 (by decide) ?_
      obtain ⟨h35, e36, e⟩ := bA_some e
      refine a_zast C dX12_image_65 e36 ?_
      refine a_iconst (v := (1 : Int32)) C dX12_image_66 (by decide) ?_
      obtain ⟨rfl, rfl⟩ := sp2 e
      exact a_iret C q (Nat.le_of_ble_eq_true rfl) (Nat.le_of_ble_eq_true rfl) dX12_image_67
    · have e := ip c21 e
      refine a_ldc C ko_X12_219 dX12_image_25 ?_
      obtain ⟨rfl, rfl⟩ := sp2 e
      exact a_iret C q (Nat.le_of_ble_eq_true rfl) (Nat.le_of_ble_eq_true rfl) dX12_image_27
  · have e := ip c11 e
    refine a_ldc C ko_X12_73 dX12_image_15 ?_
    obtain ⟨rfl, rfl⟩ := sp2 e
    exact a_iret C q (Nat.le_of_ble_eq_true rfl) (Nat.le_of_ble_eq_true rfl) dX12_image_17

set_option maxRecDepth 100000 in
def f_X12_restore_L32 {β : Type} (k : Int32 → Hp → Option (β)) (x0 : Nat) (x1 : Int32) : Nat → Hp → Int32 → Option (β)
  | 0, _, _ => none
  | fuel + 1, h, x2 => (if (54 : Int32) ≤ x2 then k x2 h else bA (gN h x0 11 5) fun a19 => bA (gN h x0 11 29) fun a21 => bA (ald h a21 0 (((54 : Int32) * x1) + x2)) fun v22 => bA (ast h a19 0 x2 v22) fun h24 => f_X12_restore_L32 k x0 x1 fuel h24 (x2 + (1 : Int32)))

set_option maxRecDepth 100000 in
def f_X12_restore (h : Hp) (x0 : Nat) (x1 : Int32) : Option (Int32 × Hp) := bA (pV h x0 11 0 (.inl (0 : Int32))) fun h2 => b2 (f_X12_in h2 x1.toInt64 (0 : Int64) (1 : Int64)) fun r5 h3 => (if r5 = 0 then some ((-1000001 : Int32), h3) else bA (gN h3 x0 11 28) fun a13 => bA (ald h3 a13 1 x1) fun v14 => (if v14 = 0 then some ((-1000002 : Int32), h3) else f_X12_restore_L32 (fun y27 h26 => bA (pV h26 x0 11 9 (.inl (0 : Int32))) fun h29 => some ((1 : Int32), h29)) x0 x1 2000 h3 (0 : Int32)))

theorem m_X12_restore : MI yX12_restore cX12_restore 3 (some .int) 1 := ⟨co_X12_restore, ini_X12, by decide, by decide +kernel⟩
set_option maxRecDepth 100000 in
set_option maxHeartbeats 4000000 in
theorem w_X12_restore_L32 {G : Gm} {lo : Nat} {ce sl : Nat} (C : CX G lo cX12_restore RX12 (some .int) ({ frames := 1, cells := 0, slots := 0, locals := 25 } : Room) 3) {β : Type} {res : β} {k : Int32 → Hp → Option (β)} {x0 : Nat} {x1 : Int32} (hk : ∀ (h : Hp) (x2 : Int32), k x2 h = some res → AW G lo ce sl 61 [(0, .ref (lo + x0)), (1, .int x1), (2, .int x2)] [] h) (hce : ce ≤ 0) (hsl : sl ≤ 0) : ∀ (fuel : Nat) (h : Hp) (x2 : Int32), f_X12_restore_L32 k x0 x1 fuel h x2 = some res → AW G lo ce sl 32 [(0, .ref (lo + x0)), (1, .int x1), (2, .int x2)] [] h := by
  intro fuel
  induction fuel with
  | zero =>
    intro h x2 e
    cases (show (none : Option (β)) = some res from e)
  | succ fuel ih =>
    intro h x2 e
    rw [f_X12_restore_L32] at e
    refine a_iload_n C dX12_restore_32 rfl 2 rfl ?_
    refine a_bipush (v := (54 : Int32)) C dX12_restore_33 (by decide) ?_
    refine a_icmp_ge (tgt := 61) C dX12_restore_35 (by decide) (fun c17 => ?_) (fun c17 => ?_)
    · have e := ip c17 e
      exact a_sub [0, 1, 2] rfl (hk _ _ e)
    · have e := iN c17 e
      refine a_aload_n C dX12_restore_38 rfl 0 rfl ?_
      obtain ⟨a19, e18, e⟩ := bA_some e
      refine a_getN C cb11 5 (by decide) fl_X12_19 rfl dX12_restore_39 e18 ?_
      refine a_iload_n C dX12_restore_42 rfl 2 rfl ?_
      refine a_aload_n C dX12_restore_43 rfl 0 rfl ?_
      obtain ⟨a21, e20, e⟩ := bA_some e
      refine a_getN C cb11 29 (by decide) fl_X12_47 rfl dX12_restore_44 e20 ?_
      refine a_bipush (v := (54 : Int32)) C dX12_restore_47 (by decide) ?_
      refine a_iload_n C dX12_restore_49 rfl 1 rfl ?_
      refine a_imul C dX12_restore_50 ?_
      refine a_iload_n C dX12_restore_51 rfl 2 rfl ?_
      refine a_iadd C dX12_restore_52 ?_
      obtain ⟨v22, e23, e⟩ := bA_some e
      refine a_iald C dX12_restore_53 e23 ?_
      obtain ⟨h24, e25, e⟩ := bA_some e
      refine a_iast C dX12_restore_54 e25 ?_
      refine a_iinc (v := x2 + (1 : Int32)) (lv2 := [(2, .int (x2 + (1 : Int32))), (0, .ref (lo + x0)), (1, .int x1)]) C dX12_restore_55 2 rfl rfl (by decide) rfl ?_
      refine a_goto (tgt := 32) C dX12_restore_58 (by decide) ?_
      exact a_sub [1, 2, 0] rfl (ih _ _ e)
set_option maxRecDepth 100000 in
set_option maxHeartbeats 4000000 in
theorem k_X12_restore {lo : Nat} {h : Hp} {x0 : Nat} {x1 : Int32} {r : Int32} {h' : Hp} (e : f_X12_restore h x0 x1 = some (r, h')) : ∀ l d, AC l d lo yX12_restore cX12_restore 3 (some .int) ({ frames := 1, cells := 0, slots := 0, locals := 25 } : Room) [.ref (lo + x0), .int x1] h (some (.int r)) h' := by
  intro l d
  refine AC_of (by decide) (Nat.le_of_ble_eq_true rfl) ?_
  intro G C _ _ q
  unfold f_X12_restore at e
  show AW G lo 0 0 0 [(0, .ref (lo + x0)), (1, .int x1)] [] h
  refine a_aload_n C dX12_restore_0 rfl 0 rfl ?_
  refine a_iconst (v := (0 : Int32)) C dX12_restore_1 (by decide) ?_
  obtain ⟨h2, e1, e⟩ := bA_some e
  refine a_putI C cb11 0 (by decide) fl_X12_53 rfl (by decide +kernel) dX12_restore_2 e1 ?_
  refine a_iload_n C dX12_restore_5 rfl 1 rfl ?_
  refine a_i2l C dX12_restore_6 ?_
  refine a_lconst (v := (0 : Int64)) C dX12_restore_7 (by decide) ?_
  refine a_lconst (v := (1 : Int64)) C dX12_restore_8 (by decide) ?_
  obtain ⟨r5, h3, e4, e⟩ := b2_some e
  refine a_callS (as := [.long x1.toInt64, .long (0 : Int64), .long (1 : Int64)]) (rest := []) C m_X12_in sm_X12_in ml_X12_63 rfl (Nat.le_of_ble_eq_true rfl) (Nat.le_of_ble_eq_true rfl) (Nat.le_of_ble_eq_true rfl) (Nat.le_of_ble_eq_true rfl) (Nat.le_of_ble_eq_true rfl) dX12_restore_9 (k_X12_in e4) rfl ?_
  show AW G lo 0 0 12 [(0, .ref (lo + x0)), (1, .int x1)] [.int r5] h3
  refine a_if_ne (tgt := 18) C dX12_restore_12 (by decide) (fun c11 => ?_) (fun c11 => ?_)
  · have e := iN c11 e
    refine a_aload_n C dX12_restore_18 rfl 0 rfl ?_
    obtain ⟨a13, e12, e⟩ := bA_some e
    refine a_getN C cb11 28 (by decide) fl_X12_43 rfl dX12_restore_19 e12 ?_
    refine a_iload_n C dX12_restore_22 rfl 1 rfl ?_
    obtain ⟨v14, e15, e⟩ := bA_some e
    refine a_zald C dX12_restore_23 e15 ?_
    refine a_if_ne (tgt := 30) C dX12_restore_24 (by decide) (fun c16 => ?_) (fun c16 => ?_)
    · have e := iN c16 e
      refine a_iconst (v := (0 : Int32)) C dX12_restore_30 (by decide) ?_
      refine a_istore_n (lv2 := [(2, .int (0 : Int32)), (0, .ref (lo + x0)), (1, .int x1)]) C dX12_restore_31 rfl (by decide) rfl ?_
      refine a_sub [1, 2, 0] rfl (w_X12_restore_L32 C ?_ (Nat.le_of_ble_eq_true rfl) (Nat.le_of_ble_eq_true rfl) 2000 _ _ e)
      intro h26 y27 e
      show AW G lo 0 0 61 [(0, .ref (lo + x0)), (1, .int x1), (2, .int y27)] [] h26
      refine a_aload_n C dX12_restore_61 rfl 0 rfl ?_
      refine a_iconst (v := (0 : Int32)) C dX12_restore_62 (by decide) ?_
      obtain ⟨h29, e28, e⟩ := bA_some e
      refine a_putI C cb11 9 (by decide) fl_X12_161 rfl (by decide +kernel) dX12_restore_63 e28 ?_
      refine a_iconst (v := (1 : Int32)) C dX12_restore_66 (by decide) ?_
      obtain ⟨rfl, rfl⟩ := sp2 e
      exact a_iret C q (Nat.le_of_ble_eq_true rfl) (Nat.le_of_ble_eq_true rfl) dX12_restore_67
    · have e := ip c16 e
      refine a_ldc C ko_X12_219 dX12_restore_27 ?_
      obtain ⟨rfl, rfl⟩ := sp2 e
      exact a_iret C q (Nat.le_of_ble_eq_true rfl) (Nat.le_of_ble_eq_true rfl) dX12_restore_29
  · have e := ip c11 e
    refine a_ldc C ko_X12_73 dX12_restore_15 ?_
    obtain ⟨rfl, rfl⟩ := sp2 e
    exact a_iret C q (Nat.le_of_ble_eq_true rfl) (Nat.le_of_ble_eq_true rfl) dX12_restore_17

set_option maxRecDepth 100000 in
def f_X12_isOf (h : Hp) (x0 : Int32) (x1 : Int32) : Option (Int32 × Hp) := bA (if x1 = 0 then some (1 : Int32) else (if x0 = x1 then some (1 : Int32) else (if x1 = (1 : Int32) then (if x0 < (4 : Int32) then some (1 : Int32) else (if x1 = (4 : Int32) then (if x0 = (5 : Int32) then some (1 : Int32) else some (0 : Int32)) else some (0 : Int32))) else (if x1 = (4 : Int32) then (if x0 = (5 : Int32) then some (1 : Int32) else some (0 : Int32)) else some (0 : Int32))))) fun j2 => bA (bz j2) fun z12 => some (j2, h)

theorem m_X12_isOf : MI yX12_isOf cX12_isOf 2 (some .boolean) 2 := ⟨co_X12_isOf, ini_X12, by decide, by decide +kernel⟩
set_option maxRecDepth 100000 in
set_option maxHeartbeats 4000000 in
theorem k_X12_isOf {lo : Nat} {h : Hp} {x0 : Int32} {x1 : Int32} {r : Int32} {h' : Hp} (e : f_X12_isOf h x0 x1 = some (r, h')) : ∀ l d, AC l d lo yX12_isOf cX12_isOf 2 (some .boolean) ({ frames := 0, cells := 0, slots := 0, locals := 0 } : Room) [.int x0, .int x1] h (some (.int r)) h' := by
  intro l d
  refine AC_of (by decide) (Nat.le_of_ble_eq_true rfl) ?_
  intro G C _ _ q
  unfold f_X12_isOf at e
  show AW G lo 0 0 0 [(0, .int x0), (1, .int x1)] [] h
  refine a_iload_n C dX12_isOf_0 rfl 1 rfl ?_
  obtain ⟨j2, eb4, e⟩ := bA_some e
  have jj3 : AW G lo 0 0 34 [(0, .int x0), (1, .int x1)] [.int j2] h := by
    obtain ⟨z12, e13, e⟩ := bA_some e
    obtain ⟨rfl, rfl⟩ := sp2 e
    exact a_zret C q (bz_some e13) (Nat.le_of_ble_eq_true rfl) (Nat.le_of_ble_eq_true rfl) dX12_isOf_34
  have e := eb4
  refine a_if_eq (tgt := 29) C dX12_isOf_1 (by decide) (fun c1 => ?_) (fun c1 => ?_)
  · have e := ip c1 e
    refine a_iconst (v := (1 : Int32)) C dX12_isOf_29 (by decide) ?_
    refine a_goto (tgt := 34) C dX12_isOf_30 (by decide) ?_
    obtain rfl := sp1 e
    exact a_widen (Nat.le_of_ble_eq_true rfl) (Nat.le_of_ble_eq_true rfl) (a_sub [0, 1] rfl jj3)
  · have e := iN c1 e
    refine a_iload_n C dX12_isOf_4 rfl 0 rfl ?_
    refine a_iload_n C dX12_isOf_5 rfl 1 rfl ?_
    refine a_icmp_eq (tgt := 29) C dX12_isOf_6 (by decide) (fun c5 => ?_) (fun c5 => ?_)
    · have e := ip c5 e
      refine a_iconst (v := (1 : Int32)) C dX12_isOf_29 (by decide) ?_
      refine a_goto (tgt := 34) C dX12_isOf_30 (by decide) ?_
      obtain rfl := sp1 e
      exact a_widen (Nat.le_of_ble_eq_true rfl) (Nat.le_of_ble_eq_true rfl) (a_sub [0, 1] rfl jj3)
    · have e := iN c5 e
      refine a_iload_n C dX12_isOf_9 rfl 1 rfl ?_
      refine a_iconst (v := (1 : Int32)) C dX12_isOf_10 (by decide) ?_
      refine a_icmp_ne (tgt := 19) C dX12_isOf_11 (by decide) (fun c6 => ?_) (fun c6 => ?_)
      · have e := iN c6 e
        refine a_iload_n C dX12_isOf_19 rfl 1 rfl ?_
        refine a_iconst (v := (4 : Int32)) C dX12_isOf_20 (by decide) ?_
        refine a_icmp_ne (tgt := 33) C dX12_isOf_21 (by decide) (fun c7 => ?_) (fun c7 => ?_)
        · have e := iN c7 e
          refine a_iconst (v := (0 : Int32)) C dX12_isOf_33 (by decide) ?_
          obtain rfl := sp1 e
          exact a_widen (Nat.le_of_ble_eq_true rfl) (Nat.le_of_ble_eq_true rfl) (a_sub [0, 1] rfl jj3)
        · have e := ip c7 e
          refine a_iload_n C dX12_isOf_24 rfl 0 rfl ?_
          refine a_iconst (v := (5 : Int32)) C dX12_isOf_25 (by decide) ?_
          refine a_icmp_ne (tgt := 33) C dX12_isOf_26 (by decide) (fun c8 => ?_) (fun c8 => ?_)
          · have e := iN c8 e
            refine a_iconst (v := (0 : Int32)) C dX12_isOf_33 (by decide) ?_
            obtain rfl := sp1 e
            exact a_widen (Nat.le_of_ble_eq_true rfl) (Nat.le_of_ble_eq_true rfl) (a_sub [0, 1] rfl jj3)
          · have e := ip c8 e
            refine a_iconst (v := (1 : Int32)) C dX12_isOf_29 (by decide) ?_
            refine a_goto (tgt := 34) C dX12_isOf_30 (by decide) ?_
            obtain rfl := sp1 e
            exact a_widen (Nat.le_of_ble_eq_true rfl) (Nat.le_of_ble_eq_true rfl) (a_sub [0, 1] rfl jj3)
      · have e := ip c6 e
        refine a_iload_n C dX12_isOf_14 rfl 0 rfl ?_
        refine a_iconst (v := (4 : Int32)) C dX12_isOf_15 (by decide) ?_
        refine a_icmp_lt (tgt := 29) C dX12_isOf_16 (by decide) (fun c9 => ?_) (fun c9 => ?_)
        · have e := ip c9 e
          refine a_iconst (v := (1 : Int32)) C dX12_isOf_29 (by decide) ?_
          refine a_goto (tgt := 34) C dX12_isOf_30 (by decide) ?_
          obtain rfl := sp1 e
          exact a_widen (Nat.le_of_ble_eq_true rfl) (Nat.le_of_ble_eq_true rfl) (a_sub [0, 1] rfl jj3)
        · have e := iN c9 e
          refine a_iload_n C dX12_isOf_19 rfl 1 rfl ?_
          refine a_iconst (v := (4 : Int32)) C dX12_isOf_20 (by decide) ?_
          refine a_icmp_ne (tgt := 33) C dX12_isOf_21 (by decide) (fun c10 => ?_) (fun c10 => ?_)
          · have e := iN c10 e
            refine a_iconst (v := (0 : Int32)) C dX12_isOf_33 (by decide) ?_
            obtain rfl := sp1 e
            exact a_widen (Nat.le_of_ble_eq_true rfl) (Nat.le_of_ble_eq_true rfl) (a_sub [0, 1] rfl jj3)
          · have e := ip c10 e
            refine a_iload_n C dX12_isOf_24 rfl 0 rfl ?_
            refine a_iconst (v := (5 : Int32)) C dX12_isOf_25 (by decide) ?_
            refine a_icmp_ne (tgt := 33) C dX12_isOf_26 (by decide) (fun c11 => ?_) (fun c11 => ?_)
            · have e := iN c11 e
              refine a_iconst (v := (0 : Int32)) C dX12_isOf_33 (by decide) ?_
              obtain rfl := sp1 e
              exact a_widen (Nat.le_of_ble_eq_true rfl) (Nat.le_of_ble_eq_true rfl) (a_sub [0, 1] rfl jj3)
            · have e := ip c11 e
              refine a_iconst (v := (1 : Int32)) C dX12_isOf_29 (by decide) ?_
              refine a_goto (tgt := 34) C dX12_isOf_30 (by decide) ?_
              obtain rfl := sp1 e
              exact a_widen (Nat.le_of_ble_eq_true rfl) (Nat.le_of_ble_eq_true rfl) (a_sub [0, 1] rfl jj3)

set_option maxRecDepth 100000 in
def f_X12_kind (h : Hp) (x0 : Nat) (x1 : Int32) : Option (Int32 × Hp) := bA (pV h x0 11 0 (.inl (0 : Int32))) fun h2 => bA (isC h2 x0 11) fun u9 => b2 (f_X12_isDoor h2 x0 x1) fun r5 h3 => b2 (if r5 = 0 then some ((-1000001 : Int32), h3) else bA (gN h3 x0 11 5) fun a18 => b2 (f_X12_of h3 a18 x1 (0 : Int32)) fun r21 h19 => some (r21, h19)) fun j13 h14 => some (j13, h14)

theorem m_X12_kind : MI yX12_kind cX12_kind 2 (some .int) 1 := ⟨co_X12_kind, ini_X12, by decide, by decide +kernel⟩
set_option maxRecDepth 100000 in
set_option maxHeartbeats 4000000 in
theorem k_X12_kind {lo : Nat} {h : Hp} {x0 : Nat} {x1 : Int32} {r : Int32} {h' : Hp} (e : f_X12_kind h x0 x1 = some (r, h')) : ∀ l d, AC l d lo yX12_kind cX12_kind 2 (some .int) ({ frames := 2, cells := 0, slots := 0, locals := 46 } : Room) [.ref (lo + x0), .int x1] h (some (.int r)) h' := by
  intro l d
  refine AC_of (by decide) (Nat.le_of_ble_eq_true rfl) ?_
  intro G C _ _ q
  unfold f_X12_kind at e
  show AW G lo 0 0 0 [(0, .ref (lo + x0)), (1, .int x1)] [] h
  refine a_aload_n C dX12_kind_0 rfl 0 rfl ?_
  refine a_iconst (v := (0 : Int32)) C dX12_kind_1 (by decide) ?_
  obtain ⟨h2, e1, e⟩ := bA_some e
  refine a_putI C cb11 0 (by decide) fl_X12_53 rfl (by decide +kernel) dX12_kind_2 e1 ?_
  refine a_aload_n C dX12_kind_5 rfl 0 rfl ?_
  refine a_iload_n C dX12_kind_6 rfl 1 rfl ?_
  obtain ⟨u9, ec8, e⟩ := bA_some e
  obtain ⟨fs7, eo6⟩ := isC_some ec8
  obtain ⟨r5, h3, e4, e⟩ := b2_some e
  refine a_callV (as := [.int x1]) (rest := []) C m_X12_isDoor im_X12_isDoor cb11 se_X12_X12_isDoor_X12_isDoor ml_X12_236 rfl (Nat.le_of_ble_eq_true rfl) (Nat.le_of_ble_eq_true rfl) (Nat.le_of_ble_eq_true rfl) (Nat.le_of_ble_eq_true rfl) (Nat.le_of_ble_eq_true rfl) dX12_kind_7 eo6 (k_X12_isDoor e4) rfl ?_
  show AW G lo 0 0 10 [(0, .ref (lo + x0)), (1, .int x1)] [.int r5] h3
  obtain ⟨j13, h14, eb16, e⟩ := b2_some e
  have jj15 : AW G lo 0 0 27 [(0, .ref (lo + x0)), (1, .int x1)] [.int j13] h14 := by
    obtain ⟨rfl, rfl⟩ := sp2 e
    exact a_iret C q (Nat.le_of_ble_eq_true rfl) (Nat.le_of_ble_eq_true rfl) dX12_kind_27
  have e := eb16
  refine a_if_eq (tgt := 25) C dX12_kind_10 (by decide) (fun c12 => ?_) (fun c12 => ?_)
  · have e := ip c12 e
    refine a_ldc C ko_X12_73 dX12_kind_25 ?_
    obtain ⟨rfl, rfl⟩ := sp2 e
    exact a_widen (Nat.le_of_ble_eq_true rfl) (Nat.le_of_ble_eq_true rfl) (a_sub [0, 1] rfl jj15)
  · have e := iN c12 e
    refine a_aload_n C dX12_kind_13 rfl 0 rfl ?_
    obtain ⟨a18, e17, e⟩ := bA_some e
    refine a_getN C cb11 5 (by decide) fl_X12_19 rfl dX12_kind_14 e17 ?_
    refine a_iload_n C dX12_kind_17 rfl 1 rfl ?_
    refine a_iconst (v := (0 : Int32)) C dX12_kind_18 (by decide) ?_
    obtain ⟨r21, h19, e20, e⟩ := b2_some e
    refine a_callS (as := [.ref (lo + a18), .int x1, .int (0 : Int32)]) (rest := []) C m_X12_of sm_X12_of ml_X12_167 rfl (Nat.le_of_ble_eq_true rfl) (Nat.le_of_ble_eq_true rfl) (Nat.le_of_ble_eq_true rfl) (Nat.le_of_ble_eq_true rfl) (Nat.le_of_ble_eq_true rfl) dX12_kind_19 (k_X12_of e20) rfl ?_
    show AW G lo 0 0 22 [(0, .ref (lo + x0)), (1, .int x1)] [.int r21] h19
    refine a_goto (tgt := 27) C dX12_kind_22 (by decide) ?_
    obtain ⟨rfl, rfl⟩ := sp2 e
    exact a_widen (Nat.le_of_ble_eq_true rfl) (Nat.le_of_ble_eq_true rfl) (a_sub [0, 1] rfl jj15)

set_option maxRecDepth 100000 in
def f_X12_as (h : Hp) (x0 : Nat) (x1 : Int32) (x2 : Int32) : Option (Int32 × Hp) := bA (pV h x0 11 0 (.inl (0 : Int32))) fun h2 => bA (isC h2 x0 11) fun u9 => b2 (f_X12_isDoor h2 x0 x1) fun r5 h3 => (if r5 = 0 then some ((-1000001 : Int32), h3) else b2 (f_X12_in h3 x2.toInt64 (0 : Int64) (5 : Int64)) fun r15 h13 => (if r15 = 0 then some ((-1000001 : Int32), h13) else bA (pV h13 x0 11 1 (.inl (0 : Int32))) fun h23 => bA (gN h23 x0 11 5) fun a25 => b2 (f_X12_of h23 a25 x1 (0 : Int32)) fun r28 h26 => b2 (f_X12_isOf h26 r28 x2) fun r36 h34 => b2 (if r36 = 0 then bA (isC h34 x0 11) fun u53 => b2 (f_X12_finding h34 x0 (3 : Int32)) fun r49 h47 => some (r49, h47) else some (x1, h34)) fun j43 h44 => some (j43, h44)))

theorem m_X12_as : MI yX12_as cX12_as 3 (some .int) 2 := ⟨co_X12_as, ini_X12, by decide, by decide +kernel⟩
set_option maxRecDepth 100000 in
set_option maxHeartbeats 4000000 in
theorem k_X12_as {lo : Nat} {h : Hp} {x0 : Nat} {x1 : Int32} {x2 : Int32} {r : Int32} {h' : Hp} (e : f_X12_as h x0 x1 x2 = some (r, h')) : ∀ l d, AC l d lo yX12_as cX12_as 3 (some .int) ({ frames := 2, cells := 0, slots := 0, locals := 46 } : Room) [.ref (lo + x0), .int x1, .int x2] h (some (.int r)) h' := by
  intro l d
  refine AC_of (by decide) (Nat.le_of_ble_eq_true rfl) ?_
  intro G C _ _ q
  unfold f_X12_as at e
  show AW G lo 0 0 0 [(0, .ref (lo + x0)), (1, .int x1), (2, .int x2)] [] h
  refine a_aload_n C dX12_as_0 rfl 0 rfl ?_
  refine a_iconst (v := (0 : Int32)) C dX12_as_1 (by decide) ?_
  obtain ⟨h2, e1, e⟩ := bA_some e
  refine a_putI C cb11 0 (by decide) fl_X12_53 rfl (by decide +kernel) dX12_as_2 e1 ?_
  refine a_aload_n C dX12_as_5 rfl 0 rfl ?_
  refine a_iload_n C dX12_as_6 rfl 1 rfl ?_
  obtain ⟨u9, ec8, e⟩ := bA_some e
  obtain ⟨fs7, eo6⟩ := isC_some ec8
  obtain ⟨r5, h3, e4, e⟩ := b2_some e
  refine a_callV (as := [.int x1]) (rest := []) C m_X12_isDoor im_X12_isDoor cb11 se_X12_X12_isDoor_X12_isDoor ml_X12_236 rfl (Nat.le_of_ble_eq_true rfl) (Nat.le_of_ble_eq_true rfl) (Nat.le_of_ble_eq_true rfl) (Nat.le_of_ble_eq_true rfl) (Nat.le_of_ble_eq_true rfl) dX12_as_7 eo6 (k_X12_isDoor e4) rfl ?_
  show AW G lo 0 0 10 [(0, .ref (lo + x0)), (1, .int x1), (2, .int x2)] [.int r5] h3
  refine a_if_eq (tgt := 25) C dX12_as_10 (by decide) (fun c12 => ?_) (fun c12 => ?_)
  · have e := ip c12 e
    refine a_ldc C ko_X12_73 dX12_as_25 ?_
    obtain ⟨rfl, rfl⟩ := sp2 e
    exact a_iret C q (Nat.le_of_ble_eq_true rfl) (Nat.le_of_ble_eq_true rfl) dX12_as_27
  · have e := iN c12 e
    refine a_iload_n C dX12_as_13 rfl 2 rfl ?_
    refine a_i2l C dX12_as_14 ?_
    refine a_lconst (v := (0 : Int64)) C dX12_as_15 (by decide) ?_
    refine a_ldc2 C kL_X12_300 dX12_as_16 ?_
    obtain ⟨r15, h13, e14, e⟩ := b2_some e
    refine a_callS (as := [.long x2.toInt64, .long (0 : Int64), .long (5 : Int64)]) (rest := []) C m_X12_in sm_X12_in ml_X12_63 rfl (Nat.le_of_ble_eq_true rfl) (Nat.le_of_ble_eq_true rfl) (Nat.le_of_ble_eq_true rfl) (Nat.le_of_ble_eq_true rfl) (Nat.le_of_ble_eq_true rfl) dX12_as_19 (k_X12_in e14) rfl ?_
    show AW G lo 0 0 22 [(0, .ref (lo + x0)), (1, .int x1), (2, .int x2)] [.int r15] h13
    refine a_if_ne (tgt := 28) C dX12_as_22 (by decide) (fun c21 => ?_) (fun c21 => ?_)
    · have e := iN c21 e
      refine a_aload_n C dX12_as_28 rfl 0 rfl ?_
      refine a_iconst (v := (0 : Int32)) C dX12_as_29 (by decide) ?_
      obtain ⟨h23, e22, e⟩ := bA_some e
      refine a_putI C cb11 1 (by decide) fl_X12_57 rfl (by decide +kernel) dX12_as_30 e22 ?_
      refine a_aload_n C dX12_as_33 rfl 0 rfl ?_
      obtain ⟨a25, e24, e⟩ := bA_some e
      refine a_getN C cb11 5 (by decide) fl_X12_19 rfl dX12_as_34 e24 ?_
      refine a_iload_n C dX12_as_37 rfl 1 rfl ?_
      refine a_iconst (v := (0 : Int32)) C dX12_as_38 (by decide) ?_
      obtain ⟨r28, h26, e27, e⟩ := b2_some e
      refine a_callS (as := [.ref (lo + a25), .int x1, .int (0 : Int32)]) (rest := []) C m_X12_of sm_X12_of ml_X12_167 rfl (Nat.le_of_ble_eq_true rfl) (Nat.le_of_ble_eq_true rfl) (Nat.le_of_ble_eq_true rfl) (Nat.le_of_ble_eq_true rfl) (Nat.le_of_ble_eq_true rfl) dX12_as_39 (k_X12_of e27) rfl ?_
      show AW G lo 0 0 42 [(0, .ref (lo + x0)), (1, .int x1), (2, .int x2)] [.int r28] h26
      refine a_iload_n C dX12_as_42 rfl 2 rfl ?_
      obtain ⟨r36, h34, e35, e⟩ := b2_some e
      refine a_callS (as := [.int r28, .int x2]) (rest := []) C m_X12_isOf sm_X12_isOf ml_X12_302 rfl (Nat.le_of_ble_eq_true rfl) (Nat.le_of_ble_eq_true rfl) (Nat.le_of_ble_eq_true rfl) (Nat.le_of_ble_eq_true rfl) (Nat.le_of_ble_eq_true rfl) dX12_as_43 (k_X12_isOf e35) rfl ?_
      show AW G lo 0 0 46 [(0, .ref (lo + x0)), (1, .int x1), (2, .int x2)] [.int r36] h34
      obtain ⟨j43, h44, eb46, e⟩ := b2_some e
      have jj45 : AW G lo 0 0 58 [(0, .ref (lo + x0)), (1, .int x1), (2, .int x2)] [.int j43] h44 := by
        obtain ⟨rfl, rfl⟩ := sp2 e
        exact a_iret C q (Nat.le_of_ble_eq_true rfl) (Nat.le_of_ble_eq_true rfl) dX12_as_58
      have e := eb46
      refine a_if_eq (tgt := 53) C dX12_as_46 (by decide) (fun c42 => ?_) (fun c42 => ?_)
      · have e := ip c42 e
        refine a_aload_n C dX12_as_53 rfl 0 rfl ?_
        refine a_iconst (v := (3 : Int32)) C dX12_as_54 (by decide) ?_
        obtain ⟨u53, ec52, e⟩ := bA_some e
        obtain ⟨fs51, eo50⟩ := isC_some ec52
        obtain ⟨r49, h47, e48, e⟩ := b2_some e
        refine a_callV (as := [.int (3 : Int32)]) (rest := []) C m_X12_finding im_X12_finding cb11 se_X12_X12_finding_X12_finding ml_X12_74 rfl (Nat.le_of_ble_eq_true rfl) (Nat.le_of_ble_eq_true rfl) (Nat.le_of_ble_eq_true rfl) (Nat.le_of_ble_eq_true rfl) (Nat.le_of_ble_eq_true rfl) dX12_as_55 eo50 (k_X12_finding e48) rfl ?_
        show AW G lo 0 0 58 [(0, .ref (lo + x0)), (1, .int x1), (2, .int x2)] [.int r49] h47
        obtain ⟨rfl, rfl⟩ := sp2 e
        exact a_widen (Nat.le_of_ble_eq_true rfl) (Nat.le_of_ble_eq_true rfl) (a_sub [0, 1, 2] rfl jj45)
      · have e := iN c42 e
        refine a_iload_n C dX12_as_49 rfl 1 rfl ?_
        refine a_goto (tgt := 58) C dX12_as_50 (by decide) ?_
        obtain ⟨rfl, rfl⟩ := sp2 e
        exact a_widen (Nat.le_of_ble_eq_true rfl) (Nat.le_of_ble_eq_true rfl) (a_sub [0, 1, 2] rfl jj45)
    · have e := ip c21 e
      refine a_ldc C ko_X12_73 dX12_as_25 ?_
      obtain ⟨rfl, rfl⟩ := sp2 e
      exact a_iret C q (Nat.le_of_ble_eq_true rfl) (Nat.le_of_ble_eq_true rfl) dX12_as_27

set_option maxRecDepth 100000 in
def f_X12_began (h : Hp) (x0 : Nat) (x1 : Int32) : Option (Hp) := bA (gI h x0 11 31) fun g2 => bA (if (16 : Int32) ≤ g2 then some h else bA (gN h x0 11 30) fun a8 => bA (gI h x0 11 31) fun g10 => bA (ast h a8 0 g10 x1) fun h11 => bA (gI h11 x0 11 31) fun g14 => bA (pV h11 x0 11 31 (.inl (g14 + (1 : Int32)))) fun h16 => some h16) fun h4 => some h4

theorem m_X12_began : MI yX12_began cX12_began 2 none 1 := ⟨co_X12_began, ini_X12, by decide, by decide +kernel⟩
set_option maxRecDepth 100000 in
set_option maxHeartbeats 4000000 in
theorem k_X12_began {lo : Nat} {h : Hp} {x0 : Nat} {x1 : Int32} {h' : Hp} (e : f_X12_began h x0 x1 = some h') : ∀ l d, AC l d lo yX12_began cX12_began 2 none ({ frames := 0, cells := 0, slots := 0, locals := 0 } : Room) [.ref (lo + x0), .int x1] h none h' := by
  intro l d
  refine AC_of (by decide) (Nat.le_of_ble_eq_true rfl) ?_
  intro G C _ _ q
  unfold f_X12_began at e
  show AW G lo 0 0 0 [(0, .ref (lo + x0)), (1, .int x1)] [] h
  refine a_aload_n C dX12_began_0 rfl 0 rfl ?_
  obtain ⟨g2, e1, e⟩ := bA_some e
  refine a_getI C cb11 31 (by decide) fl_X12_305 rfl dX12_began_1 e1 ?_
  refine a_bipush (v := (16 : Int32)) C dX12_began_4 (by decide) ?_
  obtain ⟨h4, eb6, e⟩ := bA_some e
  have jj5 : AW G lo 0 0 29 [(0, .ref (lo + x0)), (1, .int x1)] [] h4 := by
    obtain rfl := sp1 e
    exact a_vret C q (Nat.le_of_ble_eq_true rfl) (Nat.le_of_ble_eq_true rfl) dX12_began_29
  have e := eb6
  refine a_icmp_ge (tgt := 29) C dX12_began_6 (by decide) (fun c3 => ?_) (fun c3 => ?_)
  · have e := ip c3 e
    obtain rfl := sp1 e
    exact a_widen (Nat.le_of_ble_eq_true rfl) (Nat.le_of_ble_eq_true rfl) (a_sub [0, 1] rfl jj5)
  · have e := iN c3 e
    refine a_aload_n C dX12_began_9 rfl 0 rfl ?_
    obtain ⟨a8, e7, e⟩ := bA_some e
    refine a_getN C cb11 30 (by decide) fl_X12_50 rfl dX12_began_10 e7 ?_
    refine a_aload_n C dX12_began_13 rfl 0 rfl ?_
    obtain ⟨g10, e9, e⟩ := bA_some e
    refine a_getI C cb11 31 (by decide) fl_X12_305 rfl dX12_began_14 e9 ?_
    refine a_iload_n C dX12_began_17 rfl 1 rfl ?_
    obtain ⟨h11, e12, e⟩ := bA_some e
    refine a_iast C dX12_began_18 e12 ?_
    refine a_aload_n C dX12_began_19 rfl 0 rfl ?_
    refine a_dup C dX12_began_20 rfl ?_
    obtain ⟨g14, e13, e⟩ := bA_some e
    refine a_getI C cb11 31 (by decide) fl_X12_305 rfl dX12_began_21 e13 ?_
    refine a_iconst (v := (1 : Int32)) C dX12_began_24 (by decide) ?_
    refine a_iadd C dX12_began_25 ?_
    obtain ⟨h16, e15, e⟩ := bA_some e
    refine a_putI C cb11 31 (by decide) fl_X12_305 rfl (by decide +kernel) dX12_began_26 e15 ?_
    obtain rfl := sp1 e
    exact a_widen (Nat.le_of_ble_eq_true rfl) (Nat.le_of_ble_eq_true rfl) (a_sub [0, 1] rfl jj5)

set_option maxRecDepth 100000 in
def f_X12_plainSize (h : Hp) (x0 : Nat) (x1 : Int32) : Option (Int32 × Hp) := bA (isC h x0 11) fun u7 => bA (f_X12_began h x0 (10 : Int32)) fun h1 => bA (gN h1 x0 11 5) fun a11 => b2 (f_X12_of h1 a11 x1 (3 : Int32)) fun r14 h12 => some (r14, h12)

theorem m_X12_plainSize : MI yX12_plainSize cX12_plainSize 2 (some .int) 1 := ⟨co_X12_plainSize, ini_X12, by decide, by decide +kernel⟩
set_option maxRecDepth 100000 in
set_option maxHeartbeats 4000000 in
theorem k_X12_plainSize {lo : Nat} {h : Hp} {x0 : Nat} {x1 : Int32} {r : Int32} {h' : Hp} (e : f_X12_plainSize h x0 x1 = some (r, h')) : ∀ l d, AC l d lo yX12_plainSize cX12_plainSize 2 (some .int) ({ frames := 1, cells := 0, slots := 0, locals := 22 } : Room) [.ref (lo + x0), .int x1] h (some (.int r)) h' := by
  intro l d
  refine AC_of (by decide) (Nat.le_of_ble_eq_true rfl) ?_
  intro G C _ _ q
  unfold f_X12_plainSize at e
  show AW G lo 0 0 0 [(0, .ref (lo + x0)), (1, .int x1)] [] h
  refine a_aload_n C dX12_plainSize_0 rfl 0 rfl ?_
  refine a_bipush (v := (10 : Int32)) C dX12_plainSize_1 (by decide) ?_
  obtain ⟨u7, ec6, e⟩ := bA_some e
  obtain ⟨fs5, eo4⟩ := isC_some ec6
  obtain ⟨h1, e2, e⟩ := bA_some e
  refine a_callV (as := [.int (10 : Int32)]) (rest := []) C m_X12_began im_X12_began cb11 se_X12_X12_began_X12_began ml_X12_308 rfl (Nat.le_of_ble_eq_true rfl) (Nat.le_of_ble_eq_true rfl) (Nat.le_of_ble_eq_true rfl) (Nat.le_of_ble_eq_true rfl) (Nat.le_of_ble_eq_true rfl) dX12_plainSize_3 eo4 (k_X12_began e2) rfl ?_
  show AW G lo 0 0 6 [(0, .ref (lo + x0)), (1, .int x1)] [] h1
  refine a_aload_n C dX12_plainSize_6 rfl 0 rfl ?_
  obtain ⟨a11, e10, e⟩ := bA_some e
  refine a_getN C cb11 5 (by decide) fl_X12_19 rfl dX12_plainSize_7 e10 ?_
  refine a_iload_n C dX12_plainSize_10 rfl 1 rfl ?_
  refine a_iconst (v := (3 : Int32)) C dX12_plainSize_11 (by decide) ?_
  obtain ⟨r14, h12, e13, e⟩ := b2_some e
  refine a_callS (as := [.ref (lo + a11), .int x1, .int (3 : Int32)]) (rest := []) C m_X12_of sm_X12_of ml_X12_167 rfl (Nat.le_of_ble_eq_true rfl) (Nat.le_of_ble_eq_true rfl) (Nat.le_of_ble_eq_true rfl) (Nat.le_of_ble_eq_true rfl) (Nat.le_of_ble_eq_true rfl) dX12_plainSize_12 (k_X12_of e13) rfl ?_
  show AW G lo 0 0 15 [(0, .ref (lo + x0)), (1, .int x1)] [.int r14] h12
  obtain ⟨rfl, rfl⟩ := sp2 e
  exact a_iret C q (Nat.le_of_ble_eq_true rfl) (Nat.le_of_ble_eq_true rfl) dX12_plainSize_15

set_option maxRecDepth 100000 in
def f_X12_lockSize (h : Hp) (x0 : Nat) (x1 : Int32) : Option (Int32 × Hp) := bA (gN h x0 11 5) fun a2 => b2 (f_X12_of h a2 x1 (0 : Int32)) fun r5 h3 => bA (if r5 = (5 : Int32) then some (1 : Int32) else some (0 : Int32)) fun j12 => bA (if j12 = 0 then some h3 else bA (isC h3 x0 11) fun u25 => bA (f_X12_began h3 x0 (14 : Int32)) fun h19 => some h19) fun h16 => bA (isC h16 x0 11) fun u34 => bA (f_X12_began h16 x0 (13 : Int32)) fun h28 => bA (isC h28 x0 11) fun u43 => b2 (f_X12_plainSize h28 x0 x1) fun r39 h37 => bA (if j12 = 0 then some (r39 - (100 : Int32)) else some ((2 : Int32) * (r39 - (100 : Int32)))) fun j47 => some (j47, h37)

theorem m_X12_lockSize : MI yX12_lockSize cX12_lockSize 4 (some .int) 1 := ⟨co_X12_lockSize, ini_X12, by decide, by decide +kernel⟩
set_option maxRecDepth 100000 in
set_option maxHeartbeats 4000000 in
theorem k_X12_lockSize {lo : Nat} {h : Hp} {x0 : Nat} {x1 : Int32} {r : Int32} {h' : Hp} (e : f_X12_lockSize h x0 x1 = some (r, h')) : ∀ l d, AC l d lo yX12_lockSize cX12_lockSize 4 (some .int) ({ frames := 2, cells := 0, slots := 0, locals := 43 } : Room) [.ref (lo + x0), .int x1] h (some (.int r)) h' := by
  intro l d
  refine AC_of (by decide) (Nat.le_of_ble_eq_true rfl) ?_
  intro G C _ _ q
  unfold f_X12_lockSize at e
  show AW G lo 0 0 0 [(0, .ref (lo + x0)), (1, .int x1)] [] h
  refine a_aload_n C dX12_lockSize_0 rfl 0 rfl ?_
  obtain ⟨a2, e1, e⟩ := bA_some e
  refine a_getN C cb11 5 (by decide) fl_X12_19 rfl dX12_lockSize_1 e1 ?_
  refine a_iload_n C dX12_lockSize_4 rfl 1 rfl ?_
  refine a_iconst (v := (0 : Int32)) C dX12_lockSize_5 (by decide) ?_
  obtain ⟨r5, h3, e4, e⟩ := b2_some e
  refine a_callS (as := [.ref (lo + a2), .int x1, .int (0 : Int32)]) (rest := []) C m_X12_of sm_X12_of ml_X12_167 rfl (Nat.le_of_ble_eq_true rfl) (Nat.le_of_ble_eq_true rfl) (Nat.le_of_ble_eq_true rfl) (Nat.le_of_ble_eq_true rfl) (Nat.le_of_ble_eq_true rfl) dX12_lockSize_6 (k_X12_of e4) rfl ?_
  show AW G lo 0 0 9 [(0, .ref (lo + x0)), (1, .int x1)] [.int r5] h3
  refine a_iconst (v := (5 : Int32)) C dX12_lockSize_9 (by decide) ?_
  obtain ⟨j12, eb14, e⟩ := bA_some e
  have jj13 : AW G lo 0 0 18 [(0, .ref (lo + x0)), (1, .int x1)] [.int j12] h3 := by
    refine a_istore_n (lv2 := [(2, .int j12), (0, .ref (lo + x0)), (1, .int x1)]) C dX12_lockSize_18 rfl (by decide) rfl ?_
    refine a_iload_n C dX12_lockSize_19 rfl 0 rfl ?_
    obtain ⟨h16, eb18, e⟩ := bA_some e
    have jj17 : AW G lo 0 0 29 [(0, .ref (lo + x0)), (1, .int x1), (2, .int j12)] [] h16 := by
      refine a_aload_n C dX12_lockSize_29 rfl 0 rfl ?_
      refine a_bipush (v := (13 : Int32)) C dX12_lockSize_30 (by decide) ?_
      obtain ⟨u34, ec33, e⟩ := bA_some e
      obtain ⟨fs32, eo31⟩ := isC_some ec33
      obtain ⟨h28, e29, e⟩ := bA_some e
      refine a_callV (as := [.int (13 : Int32)]) (rest := []) C m_X12_began im_X12_began cb11 se_X12_X12_began_X12_began ml_X12_308 rfl (Nat.le_of_ble_eq_true rfl) (Nat.le_of_ble_eq_true rfl) (Nat.le_of_ble_eq_true rfl) (Nat.le_of_ble_eq_true rfl) (Nat.le_of_ble_eq_true rfl) dX12_lockSize_32 eo31 (k_X12_began e29) rfl ?_
      show AW G lo 0 0 35 [(0, .ref (lo + x0)), (1, .int x1), (2, .int j12)] [] h28
      refine a_aload_n C dX12_lockSize_35 rfl 0 rfl ?_
      refine a_iload_n C dX12_lockSize_36 rfl 1 rfl ?_
      obtain ⟨u43, ec42, e⟩ := bA_some e
      obtain ⟨fs41, eo40⟩ := isC_some ec42
      obtain ⟨r39, h37, e38, e⟩ := b2_some e
      refine a_callV (as := [.int x1]) (rest := []) C m_X12_plainSize im_X12_plainSize cb11 se_X12_X12_plainSize_X12_plainSize ml_X12_311 rfl (Nat.le_of_ble_eq_true rfl) (Nat.le_of_ble_eq_true rfl) (Nat.le_of_ble_eq_true rfl) (Nat.le_of_ble_eq_true rfl) (Nat.le_of_ble_eq_true rfl) dX12_lockSize_37 eo40 (k_X12_plainSize e38) rfl ?_
      show AW G lo 0 0 40 [(0, .ref (lo + x0)), (1, .int x1), (2, .int j12)] [.int r39] h37
      refine a_bipush (v := (100 : Int32)) C dX12_lockSize_40 (by decide) ?_
      refine a_isub C dX12_lockSize_42 ?_
      refine a_istore_n (lv2 := [(3, .int (r39 - (100 : Int32))), (0, .ref (lo + x0)), (1, .int x1), (2, .int j12)]) C dX12_lockSize_43 rfl (by decide) rfl ?_
      refine a_iload_n C dX12_lockSize_44 rfl 3 rfl ?_
      obtain ⟨j47, eb49, e⟩ := bA_some e
      have jj48 : AW G lo 0 0 55 [(0, .ref (lo + x0)), (1, .int x1), (2, .int j12), (3, .int (r39 - (100 : Int32)))] [.int j47] h37 := by
        obtain ⟨rfl, rfl⟩ := sp2 e
        exact a_iret C q (Nat.le_of_ble_eq_true rfl) (Nat.le_of_ble_eq_true rfl) dX12_lockSize_55
      have e := eb49
      refine a_if_eq (tgt := 54) C dX12_lockSize_45 (by decide) (fun c46 => ?_) (fun c46 => ?_)
      · have e := ip c46 e
        refine a_iload_n C dX12_lockSize_54 rfl 0 rfl ?_
        obtain rfl := sp1 e
        exact a_widen (Nat.le_of_ble_eq_true rfl) (Nat.le_of_ble_eq_true rfl) (a_sub [1, 2, 3, 0] rfl jj48)
      · have e := iN c46 e
        refine a_iconst (v := (2 : Int32)) C dX12_lockSize_48 (by decide) ?_
        refine a_iload_n C dX12_lockSize_49 rfl 0 rfl ?_
        refine a_imul C dX12_lockSize_50 ?_
        refine a_goto (tgt := 55) C dX12_lockSize_51 (by decide) ?_
        obtain rfl := sp1 e
        exact a_widen (Nat.le_of_ble_eq_true rfl) (Nat.le_of_ble_eq_true rfl) (a_sub [1, 2, 3, 0] rfl jj48)
    have e := eb18
    refine a_if_eq (tgt := 29) C dX12_lockSize_20 (by decide) (fun c15 => ?_) (fun c15 => ?_)
    · have e := ip c15 e
      obtain rfl := sp1 e
      exact a_widen (Nat.le_of_ble_eq_true rfl) (Nat.le_of_ble_eq_true rfl) (a_sub [1, 2, 0] rfl jj17)
    · have e := iN c15 e
      refine a_aload_n C dX12_lockSize_23 rfl 1 rfl ?_
      refine a_bipush (v := (14 : Int32)) C dX12_lockSize_24 (by decide) ?_
      obtain ⟨u25, ec24, e⟩ := bA_some e
      obtain ⟨fs23, eo22⟩ := isC_some ec24
      obtain ⟨h19, e20, e⟩ := bA_some e
      refine a_callV (as := [.int (14 : Int32)]) (rest := []) C m_X12_began im_X12_began cb11 se_X12_X12_began_X12_began ml_X12_308 rfl (Nat.le_of_ble_eq_true rfl) (Nat.le_of_ble_eq_true rfl) (Nat.le_of_ble_eq_true rfl) (Nat.le_of_ble_eq_true rfl) (Nat.le_of_ble_eq_true rfl) dX12_lockSize_26 eo22 (k_X12_began e20) rfl ?_
      show AW G lo 0 0 29 [(2, .int j12), (0, .ref (lo + x0)), (1, .int x1)] [] h19
      obtain rfl := sp1 e
      exact a_widen (Nat.le_of_ble_eq_true rfl) (Nat.le_of_ble_eq_true rfl) (a_sub [1, 2, 0] rfl jj17)
  have e := eb14
  refine a_icmp_ne (tgt := 17) C dX12_lockSize_10 (by decide) (fun c11 => ?_) (fun c11 => ?_)
  · have e := iN c11 e
    refine a_iconst (v := (0 : Int32)) C dX12_lockSize_17 (by decide) ?_
    obtain rfl := sp1 e
    exact a_widen (Nat.le_of_ble_eq_true rfl) (Nat.le_of_ble_eq_true rfl) (a_sub [0, 1] rfl jj13)
  · have e := ip c11 e
    refine a_iconst (v := (1 : Int32)) C dX12_lockSize_13 (by decide) ?_
    refine a_goto (tgt := 18) C dX12_lockSize_14 (by decide) ?_
    obtain rfl := sp1 e
    exact a_widen (Nat.le_of_ble_eq_true rfl) (Nat.le_of_ble_eq_true rfl) (a_sub [0, 1] rfl jj13)

set_option maxRecDepth 100000 in
def f_X12_markOf (h : Hp) (x0 : Nat) (x1 : Int32) : Option (Int32 × Hp) := bA (gN h x0 11 5) fun a2 => b2 (f_X12_of h a2 x1 (0 : Int32)) fun r5 h3 => (if r5 < (4 : Int32) then bA (if r5 = (1 : Int32) then some h3 else bA (if r5 = (3 : Int32) then some (22 : Int32) else some (24 : Int32)) fun j17 => bA (isC h3 x0 11) fun u26 => bA (f_X12_began h3 x0 j17) fun h20 => some h20) fun h13 => bA (isC h13 x0 11) fun u35 => bA (f_X12_began h13 x0 (21 : Int32)) fun h29 => bA (isC h29 x0 11) fun u44 => bA (f_X12_began h29 x0 (20 : Int32)) fun h38 => bA (gN h38 x0 11 5) fun a48 => b2 (f_X12_of h38 a48 x1 (4 : Int32)) fun r51 h49 => bA (if r5 = (1 : Int32) then some (x1 + r51) else (if r5 = (3 : Int32) then some ((x1 + r51) - (1000 : Int32)) else some ((2 : Int32) * (x1 + r51)))) fun j58 => some (j58, h49) else bA (isC h3 x0 11) fun u68 => bA (f_X12_began h3 x0 (23 : Int32)) fun h62 => bA (isC h62 x0 11) fun u77 => bA (f_X12_began h62 x0 (20 : Int32)) fun h71 => bA (isC h71 x0 11) fun u86 => b2 (f_X12_lockSize h71 x0 x1) fun r82 h80 => some ((x1 - r82), h80))

theorem m_X12_markOf : MI yX12_markOf cX12_markOf 4 (some .int) 1 := ⟨co_X12_markOf, ini_X12, by decide, by decide +kernel⟩
set_option maxRecDepth 100000 in
set_option maxHeartbeats 4000000 in
theorem k_X12_markOf {lo : Nat} {h : Hp} {x0 : Nat} {x1 : Int32} {r : Int32} {h' : Hp} (e : f_X12_markOf h x0 x1 = some (r, h')) : ∀ l d, AC l d lo yX12_markOf cX12_markOf 4 (some .int) ({ frames := 3, cells := 0, slots := 0, locals := 66 } : Room) [.ref (lo + x0), .int x1] h (some (.int r)) h' := by
  intro l d
  refine AC_of (by decide) (Nat.le_of_ble_eq_true rfl) ?_
  intro G C _ _ q
  unfold f_X12_markOf at e
  show AW G lo 0 0 0 [(0, .ref (lo + x0)), (1, .int x1)] [] h
  refine a_aload_n C dX12_markOf_0 rfl 0 rfl ?_
  obtain ⟨a2, e1, e⟩ := bA_some e
  refine a_getN C cb11 5 (by decide) fl_X12_19 rfl dX12_markOf_1 e1 ?_
  refine a_iload_n C dX12_markOf_4 rfl 1 rfl ?_
  refine a_iconst (v := (0 : Int32)) C dX12_markOf_5 (by decide) ?_
  obtain ⟨r5, h3, e4, e⟩ := b2_some e
  refine a_callS (as := [.ref (lo + a2), .int x1, .int (0 : Int32)]) (rest := []) C m_X12_of sm_X12_of ml_X12_167 rfl (Nat.le_of_ble_eq_true rfl) (Nat.le_of_ble_eq_true rfl) (Nat.le_of_ble_eq_true rfl) (Nat.le_of_ble_eq_true rfl) (Nat.le_of_ble_eq_true rfl) dX12_markOf_6 (k_X12_of e4) rfl ?_
  show AW G lo 0 0 9 [(0, .ref (lo + x0)), (1, .int x1)] [.int r5] h3
  refine a_istore_n (lv2 := [(2, .int r5), (0, .ref (lo + x0)), (1, .int x1)]) C dX12_markOf_9 rfl (by decide) rfl ?_
  refine a_iload_n C dX12_markOf_10 rfl 0 rfl ?_
  refine a_iconst (v := (4 : Int32)) C dX12_markOf_11 (by decide) ?_
  refine a_icmp_lt (tgt := 35) C dX12_markOf_12 (by decide) (fun c11 => ?_) (fun c11 => ?_)
  · have e := ip c11 e
    refine a_iload_n C dX12_markOf_35 rfl 0 rfl ?_
    refine a_iconst (v := (1 : Int32)) C dX12_markOf_36 (by decide) ?_
    obtain ⟨h13, eb15, e⟩ := bA_some e
    have jj14 : AW G lo 0 0 56 [(0, .ref (lo + x0)), (1, .int x1), (2, .int r5)] [] h13 := by
      refine a_aload_n C dX12_markOf_56 rfl 0 rfl ?_
      refine a_bipush (v := (21 : Int32)) C dX12_markOf_57 (by decide) ?_
      obtain ⟨u35, ec34, e⟩ := bA_some e
      obtain ⟨fs33, eo32⟩ := isC_some ec34
      obtain ⟨h29, e30, e⟩ := bA_some e
      refine a_callV (as := [.int (21 : Int32)]) (rest := []) C m_X12_began im_X12_began cb11 se_X12_X12_began_X12_began ml_X12_308 rfl (Nat.le_of_ble_eq_true rfl) (Nat.le_of_ble_eq_true rfl) (Nat.le_of_ble_eq_true rfl) (Nat.le_of_ble_eq_true rfl) (Nat.le_of_ble_eq_true rfl) dX12_markOf_59 eo32 (k_X12_began e30) rfl ?_
      show AW G lo 0 0 62 [(0, .ref (lo + x0)), (1, .int x1), (2, .int r5)] [] h29
      refine a_aload_n C dX12_markOf_62 rfl 0 rfl ?_
      refine a_bipush (v := (20 : Int32)) C dX12_markOf_63 (by decide) ?_
      obtain ⟨u44, ec43, e⟩ := bA_some e
      obtain ⟨fs42, eo41⟩ := isC_some ec43
      obtain ⟨h38, e39, e⟩ := bA_some e
      refine a_callV (as := [.int (20 : Int32)]) (rest := []) C m_X12_began im_X12_began cb11 se_X12_X12_began_X12_began ml_X12_308 rfl (Nat.le_of_ble_eq_true rfl) (Nat.le_of_ble_eq_true rfl) (Nat.le_of_ble_eq_true rfl) (Nat.le_of_ble_eq_true rfl) (Nat.le_of_ble_eq_true rfl) dX12_markOf_65 eo41 (k_X12_began e39) rfl ?_
      show AW G lo 0 0 68 [(0, .ref (lo + x0)), (1, .int x1), (2, .int r5)] [] h38
      refine a_iload_n C dX12_markOf_68 rfl 1 rfl ?_
      refine a_aload_n C dX12_markOf_69 rfl 0 rfl ?_
      obtain ⟨a48, e47, e⟩ := bA_some e
      refine a_getN C cb11 5 (by decide) fl_X12_19 rfl dX12_markOf_70 e47 ?_
      refine a_iload_n C dX12_markOf_73 rfl 1 rfl ?_
      refine a_iconst (v := (4 : Int32)) C dX12_markOf_74 (by decide) ?_
      obtain ⟨r51, h49, e50, e⟩ := b2_some e
      refine a_callS (as := [.ref (lo + a48), .int x1, .int (4 : Int32)]) (rest := [.int x1]) C m_X12_of sm_X12_of ml_X12_167 rfl (Nat.le_of_ble_eq_true rfl) (Nat.le_of_ble_eq_true rfl) (Nat.le_of_ble_eq_true rfl) (Nat.le_of_ble_eq_true rfl) (Nat.le_of_ble_eq_true rfl) dX12_markOf_75 (k_X12_of e50) rfl ?_
      show AW G lo 0 0 78 [(0, .ref (lo + x0)), (1, .int x1), (2, .int r5)] [.int r51, .int x1] h49
      refine a_iadd C dX12_markOf_78 ?_
      refine a_istore_n (lv2 := [(3, .int (x1 + r51)), (0, .ref (lo + x0)), (1, .int x1), (2, .int r5)]) C dX12_markOf_79 rfl (by decide) rfl ?_
      refine a_iload_n C dX12_markOf_80 rfl 3 rfl ?_
      refine a_iconst (v := (1 : Int32)) C dX12_markOf_81 (by decide) ?_
      obtain ⟨j58, eb60, e⟩ := bA_some e
      have jj59 : AW G lo 0 0 105 [(0, .ref (lo + x0)), (1, .int x1), (2, .int r5), (3, .int (x1 + r51))] [.int j58] h49 := by
        obtain ⟨rfl, rfl⟩ := sp2 e
        exact a_iret C q (Nat.le_of_ble_eq_true rfl) (Nat.le_of_ble_eq_true rfl) dX12_markOf_105
      have e := eb60
      refine a_icmp_ne (tgt := 89) C dX12_markOf_82 (by decide) (fun c57 => ?_) (fun c57 => ?_)
      · have e := iN c57 e
        refine a_iload_n C dX12_markOf_89 rfl 3 rfl ?_
        refine a_iconst (v := (3 : Int32)) C dX12_markOf_90 (by decide) ?_
        refine a_icmp_ne (tgt := 102) C dX12_markOf_91 (by decide) (fun c61 => ?_) (fun c61 => ?_)
        · have e := iN c61 e
          refine a_iconst (v := (2 : Int32)) C dX12_markOf_102 (by decide) ?_
          refine a_iload_n C dX12_markOf_103 rfl 0 rfl ?_
          refine a_imul C dX12_markOf_104 ?_
          obtain rfl := sp1 e
          exact a_widen (Nat.le_of_ble_eq_true rfl) (Nat.le_of_ble_eq_true rfl) (a_sub [1, 2, 3, 0] rfl jj59)
        · have e := ip c61 e
          refine a_iload_n C dX12_markOf_94 rfl 0 rfl ?_
          refine a_sipush (v := (1000 : Int32)) C dX12_markOf_95 (by decide) ?_
          refine a_isub C dX12_markOf_98 ?_
          refine a_goto (tgt := 105) C dX12_markOf_99 (by decide) ?_
          obtain rfl := sp1 e
          exact a_widen (Nat.le_of_ble_eq_true rfl) (Nat.le_of_ble_eq_true rfl) (a_sub [1, 2, 3, 0] rfl jj59)
      · have e := ip c57 e
        refine a_iload_n C dX12_markOf_85 rfl 0 rfl ?_
        refine a_goto (tgt := 105) C dX12_markOf_86 (by decide) ?_
        obtain rfl := sp1 e
        exact a_widen (Nat.le_of_ble_eq_true rfl) (Nat.le_of_ble_eq_true rfl) (a_sub [1, 2, 3, 0] rfl jj59)
    have e := eb15
    refine a_icmp_eq (tgt := 56) C dX12_markOf_37 (by decide) (fun c12 => ?_) (fun c12 => ?_)
    · have e := ip c12 e
      obtain rfl := sp1 e
      exact a_widen (Nat.le_of_ble_eq_true rfl) (Nat.le_of_ble_eq_true rfl) (a_sub [1, 2, 0] rfl jj14)
    · have e := iN c12 e
      refine a_aload_n C dX12_markOf_40 rfl 1 rfl ?_
      refine a_iload_n C dX12_markOf_41 rfl 0 rfl ?_
      refine a_iconst (v := (3 : Int32)) C dX12_markOf_42 (by decide) ?_
      obtain ⟨j17, eb19, e⟩ := bA_some e
      have jj18 : AW G lo 0 0 53 [(0, .ref (lo + x0)), (1, .int x1), (2, .int r5)] [.int j17, .ref (lo + x0)] h3 := by
        obtain ⟨u26, ec25, e⟩ := bA_some e
        obtain ⟨fs24, eo23⟩ := isC_some ec25
        obtain ⟨h20, e21, e⟩ := bA_some e
        refine a_callV (as := [.int j17]) (rest := []) C m_X12_began im_X12_began cb11 se_X12_X12_began_X12_began ml_X12_308 rfl (Nat.le_of_ble_eq_true rfl) (Nat.le_of_ble_eq_true rfl) (Nat.le_of_ble_eq_true rfl) (Nat.le_of_ble_eq_true rfl) (Nat.le_of_ble_eq_true rfl) dX12_markOf_53 eo23 (k_X12_began e21) rfl ?_
        show AW G lo 0 0 56 [(0, .ref (lo + x0)), (1, .int x1), (2, .int r5)] [] h20
        obtain rfl := sp1 e
        exact a_widen (Nat.le_of_ble_eq_true rfl) (Nat.le_of_ble_eq_true rfl) (a_sub [0, 1, 2] rfl jj14)
      have e := eb19
      refine a_icmp_ne (tgt := 51) C dX12_markOf_43 (by decide) (fun c16 => ?_) (fun c16 => ?_)
      · have e := iN c16 e
        refine a_bipush (v := (24 : Int32)) C dX12_markOf_51 (by decide) ?_
        obtain rfl := sp1 e
        exact a_widen (Nat.le_of_ble_eq_true rfl) (Nat.le_of_ble_eq_true rfl) (a_sub [1, 2, 0] rfl jj18)
      · have e := ip c16 e
        refine a_bipush (v := (22 : Int32)) C dX12_markOf_46 (by decide) ?_
        refine a_goto (tgt := 53) C dX12_markOf_48 (by decide) ?_
        obtain rfl := sp1 e
        exact a_widen (Nat.le_of_ble_eq_true rfl) (Nat.le_of_ble_eq_true rfl) (a_sub [1, 2, 0] rfl jj18)
  · have e := iN c11 e
    refine a_aload_n C dX12_markOf_15 rfl 1 rfl ?_
    refine a_bipush (v := (23 : Int32)) C dX12_markOf_16 (by decide) ?_
    obtain ⟨u68, ec67, e⟩ := bA_some e
    obtain ⟨fs66, eo65⟩ := isC_some ec67
    obtain ⟨h62, e63, e⟩ := bA_some e
    refine a_callV (as := [.int (23 : Int32)]) (rest := []) C m_X12_began im_X12_began cb11 se_X12_X12_began_X12_began ml_X12_308 rfl (Nat.le_of_ble_eq_true rfl) (Nat.le_of_ble_eq_true rfl) (Nat.le_of_ble_eq_true rfl) (Nat.le_of_ble_eq_true rfl) (Nat.le_of_ble_eq_true rfl) dX12_markOf_18 eo65 (k_X12_began e63) rfl ?_
    show AW G lo 0 0 21 [(2, .int r5), (0, .ref (lo + x0)), (1, .int x1)] [] h62
    refine a_aload_n C dX12_markOf_21 rfl 1 rfl ?_
    refine a_bipush (v := (20 : Int32)) C dX12_markOf_22 (by decide) ?_
    obtain ⟨u77, ec76, e⟩ := bA_some e
    obtain ⟨fs75, eo74⟩ := isC_some ec76
    obtain ⟨h71, e72, e⟩ := bA_some e
    refine a_callV (as := [.int (20 : Int32)]) (rest := []) C m_X12_began im_X12_began cb11 se_X12_X12_began_X12_began ml_X12_308 rfl (Nat.le_of_ble_eq_true rfl) (Nat.le_of_ble_eq_true rfl) (Nat.le_of_ble_eq_true rfl) (Nat.le_of_ble_eq_true rfl) (Nat.le_of_ble_eq_true rfl) dX12_markOf_24 eo74 (k_X12_began e72) rfl ?_
    show AW G lo 0 0 27 [(2, .int r5), (0, .ref (lo + x0)), (1, .int x1)] [] h71
    refine a_iload_n C dX12_markOf_27 rfl 2 rfl ?_
    refine a_aload_n C dX12_markOf_28 rfl 1 rfl ?_
    refine a_iload_n C dX12_markOf_29 rfl 2 rfl ?_
    obtain ⟨u86, ec85, e⟩ := bA_some e
    obtain ⟨fs84, eo83⟩ := isC_some ec85
    obtain ⟨r82, h80, e81, e⟩ := b2_some e
    refine a_callV (as := [.int x1]) (rest := [.int x1]) C m_X12_lockSize im_X12_lockSize cb11 se_X12_X12_lockSize_X12_lockSize ml_X12_314 rfl (Nat.le_of_ble_eq_true rfl) (Nat.le_of_ble_eq_true rfl) (Nat.le_of_ble_eq_true rfl) (Nat.le_of_ble_eq_true rfl) (Nat.le_of_ble_eq_true rfl) dX12_markOf_30 eo83 (k_X12_lockSize e81) rfl ?_
    show AW G lo 0 0 33 [(2, .int r5), (0, .ref (lo + x0)), (1, .int x1)] [.int r82, .int x1] h80
    refine a_isub C dX12_markOf_33 ?_
    obtain ⟨rfl, rfl⟩ := sp2 e
    exact a_iret C q (Nat.le_of_ble_eq_true rfl) (Nat.le_of_ble_eq_true rfl) dX12_markOf_34

set_option maxRecDepth 100000 in
def f_X12_sizeOf (h : Hp) (x0 : Nat) (x1 : Int32) : Option (Int32 × Hp) := bA (gN h x0 11 5) fun a2 => b2 (f_X12_of h a2 x1 (0 : Int32)) fun r5 h3 => (if r5 < (4 : Int32) then bA (if r5 = (2 : Int32) then bA (isC h3 x0 11) fun u22 => bA (f_X12_began h3 x0 (12 : Int32)) fun h16 => some h16 else some h3) fun h13 => bA (isC h13 x0 11) fun u31 => bA (f_X12_began h13 x0 (11 : Int32)) fun h25 => bA (isC h25 x0 11) fun u40 => b2 (f_X12_plainSize h25 x0 x1) fun r36 h34 => bA (isC h34 x0 11) fun u49 => b2 (f_X12_markOf h34 x0 x1) fun r45 h43 => bA (if r5 = (2 : Int32) then some (-(r36 + r45)) else some (r36 + r45)) fun j53 => some (j53, h43) else bA (isC h3 x0 11) fun u62 => b2 (f_X12_lockSize h3 x0 x1) fun r58 h56 => some (r58, h56))

theorem m_X12_sizeOf : MI yX12_sizeOf cX12_sizeOf 4 (some .int) 1 := ⟨co_X12_sizeOf, ini_X12, by decide, by decide +kernel⟩
set_option maxRecDepth 100000 in
set_option maxHeartbeats 4000000 in
theorem k_X12_sizeOf {lo : Nat} {h : Hp} {x0 : Nat} {x1 : Int32} {r : Int32} {h' : Hp} (e : f_X12_sizeOf h x0 x1 = some (r, h')) : ∀ l d, AC l d lo yX12_sizeOf cX12_sizeOf 4 (some .int) ({ frames := 4, cells := 0, slots := 0, locals := 89 } : Room) [.ref (lo + x0), .int x1] h (some (.int r)) h' := by
  intro l d
  refine AC_of (by decide) (Nat.le_of_ble_eq_true rfl) ?_
  intro G C _ _ q
  unfold f_X12_sizeOf at e
  show AW G lo 0 0 0 [(0, .ref (lo + x0)), (1, .int x1)] [] h
  refine a_aload_n C dX12_sizeOf_0 rfl 0 rfl ?_
  obtain ⟨a2, e1, e⟩ := bA_some e
  refine a_getN C cb11 5 (by decide) fl_X12_19 rfl dX12_sizeOf_1 e1 ?_
  refine a_iload_n C dX12_sizeOf_4 rfl 1 rfl ?_
  refine a_iconst (v := (0 : Int32)) C dX12_sizeOf_5 (by decide) ?_
  obtain ⟨r5, h3, e4, e⟩ := b2_some e
  refine a_callS (as := [.ref (lo + a2), .int x1, .int (0 : Int32)]) (rest := []) C m_X12_of sm_X12_of ml_X12_167 rfl (Nat.le_of_ble_eq_true rfl) (Nat.le_of_ble_eq_true rfl) (Nat.le_of_ble_eq_true rfl) (Nat.le_of_ble_eq_true rfl) (Nat.le_of_ble_eq_true rfl) dX12_sizeOf_6 (k_X12_of e4) rfl ?_
  show AW G lo 0 0 9 [(0, .ref (lo + x0)), (1, .int x1)] [.int r5] h3
  refine a_istore_n (lv2 := [(2, .int r5), (0, .ref (lo + x0)), (1, .int x1)]) C dX12_sizeOf_9 rfl (by decide) rfl ?_
  refine a_iload_n C dX12_sizeOf_10 rfl 0 rfl ?_
  refine a_iconst (v := (4 : Int32)) C dX12_sizeOf_11 (by decide) ?_
  refine a_icmp_lt (tgt := 21) C dX12_sizeOf_12 (by decide) (fun c11 => ?_) (fun c11 => ?_)
  · have e := ip c11 e
    refine a_iload_n C dX12_sizeOf_21 rfl 0 rfl ?_
    refine a_iconst (v := (2 : Int32)) C dX12_sizeOf_22 (by decide) ?_
    obtain ⟨h13, eb15, e⟩ := bA_some e
    have jj14 : AW G lo 0 0 32 [(0, .ref (lo + x0)), (1, .int x1), (2, .int r5)] [] h13 := by
      refine a_aload_n C dX12_sizeOf_32 rfl 0 rfl ?_
      refine a_bipush (v := (11 : Int32)) C dX12_sizeOf_33 (by decide) ?_
      obtain ⟨u31, ec30, e⟩ := bA_some e
      obtain ⟨fs29, eo28⟩ := isC_some ec30
      obtain ⟨h25, e26, e⟩ := bA_some e
      refine a_callV (as := [.int (11 : Int32)]) (rest := []) C m_X12_began im_X12_began cb11 se_X12_X12_began_X12_began ml_X12_308 rfl (Nat.le_of_ble_eq_true rfl) (Nat.le_of_ble_eq_true rfl) (Nat.le_of_ble_eq_true rfl) (Nat.le_of_ble_eq_true rfl) (Nat.le_of_ble_eq_true rfl) dX12_sizeOf_35 eo28 (k_X12_began e26) rfl ?_
      show AW G lo 0 0 38 [(0, .ref (lo + x0)), (1, .int x1), (2, .int r5)] [] h25
      refine a_aload_n C dX12_sizeOf_38 rfl 0 rfl ?_
      refine a_iload_n C dX12_sizeOf_39 rfl 1 rfl ?_
      obtain ⟨u40, ec39, e⟩ := bA_some e
      obtain ⟨fs38, eo37⟩ := isC_some ec39
      obtain ⟨r36, h34, e35, e⟩ := b2_some e
      refine a_callV (as := [.int x1]) (rest := []) C m_X12_plainSize im_X12_plainSize cb11 se_X12_X12_plainSize_X12_plainSize ml_X12_311 rfl (Nat.le_of_ble_eq_true rfl) (Nat.le_of_ble_eq_true rfl) (Nat.le_of_ble_eq_true rfl) (Nat.le_of_ble_eq_true rfl) (Nat.le_of_ble_eq_true rfl) dX12_sizeOf_40 eo37 (k_X12_plainSize e35) rfl ?_
      show AW G lo 0 0 43 [(0, .ref (lo + x0)), (1, .int x1), (2, .int r5)] [.int r36] h34
      refine a_istore_n (lv2 := [(3, .int r36), (0, .ref (lo + x0)), (1, .int x1), (2, .int r5)]) C dX12_sizeOf_43 rfl (by decide) rfl ?_
      refine a_iload_n C dX12_sizeOf_44 rfl 0 rfl ?_
      refine a_aload_n C dX12_sizeOf_45 rfl 1 rfl ?_
      refine a_iload_n C dX12_sizeOf_46 rfl 2 rfl ?_
      obtain ⟨u49, ec48, e⟩ := bA_some e
      obtain ⟨fs47, eo46⟩ := isC_some ec48
      obtain ⟨r45, h43, e44, e⟩ := b2_some e
      refine a_callV (as := [.int x1]) (rest := [.int r36]) C m_X12_markOf im_X12_markOf cb11 se_X12_X12_markOf_X12_markOf ml_X12_317 rfl (Nat.le_of_ble_eq_true rfl) (Nat.le_of_ble_eq_true rfl) (Nat.le_of_ble_eq_true rfl) (Nat.le_of_ble_eq_true rfl) (Nat.le_of_ble_eq_true rfl) dX12_sizeOf_47 eo46 (k_X12_markOf e44) rfl ?_
      show AW G lo 0 0 50 [(3, .int r36), (0, .ref (lo + x0)), (1, .int x1), (2, .int r5)] [.int r45, .int r36] h43
      refine a_iadd C dX12_sizeOf_50 ?_
      refine a_istore_n (lv2 := [(3, .int (r36 + r45)), (0, .ref (lo + x0)), (1, .int x1), (2, .int r5)]) C dX12_sizeOf_51 rfl (by decide) rfl ?_
      refine a_iload_n C dX12_sizeOf_52 rfl 3 rfl ?_
      refine a_iconst (v := (2 : Int32)) C dX12_sizeOf_53 (by decide) ?_
      obtain ⟨j53, eb55, e⟩ := bA_some e
      have jj54 : AW G lo 0 0 63 [(0, .ref (lo + x0)), (1, .int x1), (2, .int r5), (3, .int (r36 + r45))] [.int j53] h43 := by
        obtain ⟨rfl, rfl⟩ := sp2 e
        exact a_iret C q (Nat.le_of_ble_eq_true rfl) (Nat.le_of_ble_eq_true rfl) dX12_sizeOf_63
      have e := eb55
      refine a_icmp_ne (tgt := 62) C dX12_sizeOf_54 (by decide) (fun c52 => ?_) (fun c52 => ?_)
      · have e := iN c52 e
        refine a_iload_n C dX12_sizeOf_62 rfl 0 rfl ?_
        obtain rfl := sp1 e
        exact a_widen (Nat.le_of_ble_eq_true rfl) (Nat.le_of_ble_eq_true rfl) (a_sub [1, 2, 3, 0] rfl jj54)
      · have e := ip c52 e
        refine a_iload_n C dX12_sizeOf_57 rfl 0 rfl ?_
        refine a_ineg C dX12_sizeOf_58 ?_
        refine a_goto (tgt := 63) C dX12_sizeOf_59 (by decide) ?_
        obtain rfl := sp1 e
        exact a_widen (Nat.le_of_ble_eq_true rfl) (Nat.le_of_ble_eq_true rfl) (a_sub [1, 2, 3, 0] rfl jj54)
    have e := eb15
    refine a_icmp_ne (tgt := 32) C dX12_sizeOf_23 (by decide) (fun c12 => ?_) (fun c12 => ?_)
    · have e := iN c12 e
      obtain rfl := sp1 e
      exact a_widen (Nat.le_of_ble_eq_true rfl) (Nat.le_of_ble_eq_true rfl) (a_sub [1, 2, 0] rfl jj14)
    · have e := ip c12 e
      refine a_aload_n C dX12_sizeOf_26 rfl 1 rfl ?_
      refine a_bipush (v := (12 : Int32)) C dX12_sizeOf_27 (by decide) ?_
      obtain ⟨u22, ec21, e⟩ := bA_some e
      obtain ⟨fs20, eo19⟩ := isC_some ec21
      obtain ⟨h16, e17, e⟩ := bA_some e
      refine a_callV (as := [.int (12 : Int32)]) (rest := []) C m_X12_began im_X12_began cb11 se_X12_X12_began_X12_began ml_X12_308 rfl (Nat.le_of_ble_eq_true rfl) (Nat.le_of_ble_eq_true rfl) (Nat.le_of_ble_eq_true rfl) (Nat.le_of_ble_eq_true rfl) (Nat.le_of_ble_eq_true rfl) dX12_sizeOf_29 eo19 (k_X12_began e17) rfl ?_
      show AW G lo 0 0 32 [(2, .int r5), (0, .ref (lo + x0)), (1, .int x1)] [] h16
      obtain rfl := sp1 e
      exact a_widen (Nat.le_of_ble_eq_true rfl) (Nat.le_of_ble_eq_true rfl) (a_sub [1, 2, 0] rfl jj14)
  · have e := iN c11 e
    refine a_aload_n C dX12_sizeOf_15 rfl 1 rfl ?_
    refine a_iload_n C dX12_sizeOf_16 rfl 2 rfl ?_
    obtain ⟨u62, ec61, e⟩ := bA_some e
    obtain ⟨fs60, eo59⟩ := isC_some ec61
    obtain ⟨r58, h56, e57, e⟩ := b2_some e
    refine a_callV (as := [.int x1]) (rest := []) C m_X12_lockSize im_X12_lockSize cb11 se_X12_X12_lockSize_X12_lockSize ml_X12_314 rfl (Nat.le_of_ble_eq_true rfl) (Nat.le_of_ble_eq_true rfl) (Nat.le_of_ble_eq_true rfl) (Nat.le_of_ble_eq_true rfl) (Nat.le_of_ble_eq_true rfl) dX12_sizeOf_17 eo59 (k_X12_lockSize e57) rfl ?_
    show AW G lo 0 0 20 [(2, .int r5), (0, .ref (lo + x0)), (1, .int x1)] [.int r58] h56
    obtain ⟨rfl, rfl⟩ := sp2 e
    exact a_iret C q (Nat.le_of_ble_eq_true rfl) (Nat.le_of_ble_eq_true rfl) dX12_sizeOf_20

set_option maxRecDepth 100000 in
def f_X12_ask (h : Hp) (x0 : Nat) (x1 : Int32) (x2 : Int32) : Option (Int32 × Hp) := bA (pV h x0 11 0 (.inl (0 : Int32))) fun h2 => bA (isC h2 x0 11) fun u9 => b2 (f_X12_isDoor h2 x0 x1) fun r5 h3 => (if r5 = 0 then some ((-1000001 : Int32), h3) else b2 (f_X12_in h3 x2.toInt64 (0 : Int64) (1 : Int64)) fun r15 h13 => (if r15 = 0 then some ((-1000001 : Int32), h13) else bA (pV h13 x0 11 31 (.inl (0 : Int32))) fun h23 => b2 (if x2 = 0 then bA (isC h23 x0 11) fun u44 => b2 (f_X12_sizeOf h23 x0 x1) fun r40 h38 => some (r40, h38) else bA (isC h23 x0 11) fun u35 => b2 (f_X12_markOf h23 x0 x1) fun r31 h29 => some (r31, h29)) fun j25 h26 => some (j25, h26)))

theorem m_X12_ask : MI yX12_ask cX12_ask 3 (some .int) 2 := ⟨co_X12_ask, ini_X12, by decide, by decide +kernel⟩
set_option maxRecDepth 100000 in
set_option maxHeartbeats 4000000 in
theorem k_X12_ask {lo : Nat} {h : Hp} {x0 : Nat} {x1 : Int32} {x2 : Int32} {r : Int32} {h' : Hp} (e : f_X12_ask h x0 x1 x2 = some (r, h')) : ∀ l d, AC l d lo yX12_ask cX12_ask 3 (some .int) ({ frames := 5, cells := 0, slots := 0, locals := 112 } : Room) [.ref (lo + x0), .int x1, .int x2] h (some (.int r)) h' := by
  intro l d
  refine AC_of (by decide) (Nat.le_of_ble_eq_true rfl) ?_
  intro G C _ _ q
  unfold f_X12_ask at e
  show AW G lo 0 0 0 [(0, .ref (lo + x0)), (1, .int x1), (2, .int x2)] [] h
  refine a_aload_n C dX12_ask_0 rfl 0 rfl ?_
  refine a_iconst (v := (0 : Int32)) C dX12_ask_1 (by decide) ?_
  obtain ⟨h2, e1, e⟩ := bA_some e
  refine a_putI C cb11 0 (by decide) fl_X12_53 rfl (by decide +kernel) dX12_ask_2 e1 ?_
  refine a_aload_n C dX12_ask_5 rfl 0 rfl ?_
  refine a_iload_n C dX12_ask_6 rfl 1 rfl ?_
  obtain ⟨u9, ec8, e⟩ := bA_some e
  obtain ⟨fs7, eo6⟩ := isC_some ec8
  obtain ⟨r5, h3, e4, e⟩ := b2_some e
  refine a_callV (as := [.int x1]) (rest := []) C m_X12_isDoor im_X12_isDoor cb11 se_X12_X12_isDoor_X12_isDoor ml_X12_236 rfl (Nat.le_of_ble_eq_true rfl) (Nat.le_of_ble_eq_true rfl) (Nat.le_of_ble_eq_true rfl) (Nat.le_of_ble_eq_true rfl) (Nat.le_of_ble_eq_true rfl) dX12_ask_7 eo6 (k_X12_isDoor e4) rfl ?_
  show AW G lo 0 0 10 [(0, .ref (lo + x0)), (1, .int x1), (2, .int x2)] [.int r5] h3
  refine a_if_eq (tgt := 23) C dX12_ask_10 (by decide) (fun c12 => ?_) (fun c12 => ?_)
  · have e := ip c12 e
    refine a_ldc C ko_X12_73 dX12_ask_23 ?_
    obtain ⟨rfl, rfl⟩ := sp2 e
    exact a_iret C q (Nat.le_of_ble_eq_true rfl) (Nat.le_of_ble_eq_true rfl) dX12_ask_25
  · have e := iN c12 e
    refine a_iload_n C dX12_ask_13 rfl 2 rfl ?_
    refine a_i2l C dX12_ask_14 ?_
    refine a_lconst (v := (0 : Int64)) C dX12_ask_15 (by decide) ?_
    refine a_lconst (v := (1 : Int64)) C dX12_ask_16 (by decide) ?_
    obtain ⟨r15, h13, e14, e⟩ := b2_some e
    refine a_callS (as := [.long x2.toInt64, .long (0 : Int64), .long (1 : Int64)]) (rest := []) C m_X12_in sm_X12_in ml_X12_63 rfl (Nat.le_of_ble_eq_true rfl) (Nat.le_of_ble_eq_true rfl) (Nat.le_of_ble_eq_true rfl) (Nat.le_of_ble_eq_true rfl) (Nat.le_of_ble_eq_true rfl) dX12_ask_17 (k_X12_in e14) rfl ?_
    show AW G lo 0 0 20 [(0, .ref (lo + x0)), (1, .int x1), (2, .int x2)] [.int r15] h13
    refine a_if_ne (tgt := 26) C dX12_ask_20 (by decide) (fun c21 => ?_) (fun c21 => ?_)
    · have e := iN c21 e
      refine a_aload_n C dX12_ask_26 rfl 0 rfl ?_
      refine a_iconst (v := (0 : Int32)) C dX12_ask_27 (by decide) ?_
      obtain ⟨h23, e22, e⟩ := bA_some e
      refine a_putI C cb11 31 (by decide) fl_X12_305 rfl (by decide +kernel) dX12_ask_28 e22 ?_
      refine a_iload_n C dX12_ask_31 rfl 2 rfl ?_
      obtain ⟨j25, h26, eb28, e⟩ := b2_some e
      have jj27 : AW G lo 0 0 48 [(0, .ref (lo + x0)), (1, .int x1), (2, .int x2)] [.int j25] h26 := by
        obtain ⟨rfl, rfl⟩ := sp2 e
        exact a_iret C q (Nat.le_of_ble_eq_true rfl) (Nat.le_of_ble_eq_true rfl) dX12_ask_48
      have e := eb28
      refine a_if_ne (tgt := 43) C dX12_ask_32 (by decide) (fun c24 => ?_) (fun c24 => ?_)
      · have e := iN c24 e
        refine a_aload_n C dX12_ask_43 rfl 0 rfl ?_
        refine a_iload_n C dX12_ask_44 rfl 1 rfl ?_
        obtain ⟨u35, ec34, e⟩ := bA_some e
        obtain ⟨fs33, eo32⟩ := isC_some ec34
        obtain ⟨r31, h29, e30, e⟩ := b2_some e
        refine a_callV (as := [.int x1]) (rest := []) C m_X12_markOf im_X12_markOf cb11 se_X12_X12_markOf_X12_markOf ml_X12_317 rfl (Nat.le_of_ble_eq_true rfl) (Nat.le_of_ble_eq_true rfl) (Nat.le_of_ble_eq_true rfl) (Nat.le_of_ble_eq_true rfl) (Nat.le_of_ble_eq_true rfl) dX12_ask_45 eo32 (k_X12_markOf e30) rfl ?_
        show AW G lo 0 0 48 [(0, .ref (lo + x0)), (1, .int x1), (2, .int x2)] [.int r31] h29
        obtain ⟨rfl, rfl⟩ := sp2 e
        exact a_widen (Nat.le_of_ble_eq_true rfl) (Nat.le_of_ble_eq_true rfl) (a_sub [0, 1, 2] rfl jj27)
      · have e := ip c24 e
        refine a_aload_n C dX12_ask_35 rfl 0 rfl ?_
        refine a_iload_n C dX12_ask_36 rfl 1 rfl ?_
        obtain ⟨u44, ec43, e⟩ := bA_some e
        obtain ⟨fs42, eo41⟩ := isC_some ec43
        obtain ⟨r40, h38, e39, e⟩ := b2_some e
        refine a_callV (as := [.int x1]) (rest := []) C m_X12_sizeOf im_X12_sizeOf cb11 se_X12_X12_sizeOf_X12_sizeOf ml_X12_320 rfl (Nat.le_of_ble_eq_true rfl) (Nat.le_of_ble_eq_true rfl) (Nat.le_of_ble_eq_true rfl) (Nat.le_of_ble_eq_true rfl) (Nat.le_of_ble_eq_true rfl) dX12_ask_37 eo41 (k_X12_sizeOf e39) rfl ?_
        show AW G lo 0 0 40 [(0, .ref (lo + x0)), (1, .int x1), (2, .int x2)] [.int r40] h38
        refine a_goto (tgt := 48) C dX12_ask_40 (by decide) ?_
        obtain ⟨rfl, rfl⟩ := sp2 e
        exact a_widen (Nat.le_of_ble_eq_true rfl) (Nat.le_of_ble_eq_true rfl) (a_sub [0, 1, 2] rfl jj27)
    · have e := ip c21 e
      refine a_ldc C ko_X12_73 dX12_ask_23 ?_
      obtain ⟨rfl, rfl⟩ := sp2 e
      exact a_iret C q (Nat.le_of_ble_eq_true rfl) (Nat.le_of_ble_eq_true rfl) dX12_ask_25

set_option maxRecDepth 100000 in
def f_X12_trace (h : Hp) (x0 : Nat) (x1 : Int32) : Option (Int32 × Hp) := bA (pV h x0 11 0 (.inl (0 : Int32))) fun h2 => bA (gI h2 x0 11 31) fun g4 => b2 (f_X12_in h2 x1.toInt64 (0 : Int64) ((g4 - (1 : Int32)).toInt64)) fun r7 h5 => bA (if r7 = 0 then some (-1000000 : Int32) else bA (gN h5 x0 11 30) fun a18 => bA (ald h5 a18 0 x1) fun v19 => some v19) fun j14 => some (j14, h5)

theorem m_X12_trace : MI yX12_trace cX12_trace 2 (some .int) 1 := ⟨co_X12_trace, ini_X12, by decide, by decide +kernel⟩
set_option maxRecDepth 100000 in
set_option maxHeartbeats 4000000 in
theorem k_X12_trace {lo : Nat} {h : Hp} {x0 : Nat} {x1 : Int32} {r : Int32} {h' : Hp} (e : f_X12_trace h x0 x1 = some (r, h')) : ∀ l d, AC l d lo yX12_trace cX12_trace 2 (some .int) ({ frames := 1, cells := 0, slots := 0, locals := 25 } : Room) [.ref (lo + x0), .int x1] h (some (.int r)) h' := by
  intro l d
  refine AC_of (by decide) (Nat.le_of_ble_eq_true rfl) ?_
  intro G C _ _ q
  unfold f_X12_trace at e
  show AW G lo 0 0 0 [(0, .ref (lo + x0)), (1, .int x1)] [] h
  refine a_aload_n C dX12_trace_0 rfl 0 rfl ?_
  refine a_iconst (v := (0 : Int32)) C dX12_trace_1 (by decide) ?_
  obtain ⟨h2, e1, e⟩ := bA_some e
  refine a_putI C cb11 0 (by decide) fl_X12_53 rfl (by decide +kernel) dX12_trace_2 e1 ?_
  refine a_iload_n C dX12_trace_5 rfl 1 rfl ?_
  refine a_i2l C dX12_trace_6 ?_
  refine a_lconst (v := (0 : Int64)) C dX12_trace_7 (by decide) ?_
  refine a_aload_n C dX12_trace_8 rfl 0 rfl ?_
  obtain ⟨g4, e3, e⟩ := bA_some e
  refine a_getI C cb11 31 (by decide) fl_X12_305 rfl dX12_trace_9 e3 ?_
  refine a_iconst (v := (1 : Int32)) C dX12_trace_12 (by decide) ?_
  refine a_isub C dX12_trace_13 ?_
  refine a_i2l C dX12_trace_14 ?_
  obtain ⟨r7, h5, e6, e⟩ := b2_some e
  refine a_callS (as := [.long x1.toInt64, .long (0 : Int64), .long ((g4 - (1 : Int32)).toInt64)]) (rest := []) C m_X12_in sm_X12_in ml_X12_63 rfl (Nat.le_of_ble_eq_true rfl) (Nat.le_of_ble_eq_true rfl) (Nat.le_of_ble_eq_true rfl) (Nat.le_of_ble_eq_true rfl) (Nat.le_of_ble_eq_true rfl) dX12_trace_15 (k_X12_in e6) rfl ?_
  show AW G lo 0 0 18 [(0, .ref (lo + x0)), (1, .int x1)] [.int r7] h5
  obtain ⟨j14, eb16, e⟩ := bA_some e
  have jj15 : AW G lo 0 0 32 [(0, .ref (lo + x0)), (1, .int x1)] [.int j14] h5 := by
    obtain ⟨rfl, rfl⟩ := sp2 e
    exact a_iret C q (Nat.le_of_ble_eq_true rfl) (Nat.le_of_ble_eq_true rfl) dX12_trace_32
  have e := eb16
  refine a_if_eq (tgt := 30) C dX12_trace_18 (by decide) (fun c13 => ?_) (fun c13 => ?_)
  · have e := ip c13 e
    refine a_ldc C ko_X12_96 dX12_trace_30 ?_
    obtain rfl := sp1 e
    exact a_widen (Nat.le_of_ble_eq_true rfl) (Nat.le_of_ble_eq_true rfl) (a_sub [0, 1] rfl jj15)
  · have e := iN c13 e
    refine a_aload_n C dX12_trace_21 rfl 0 rfl ?_
    obtain ⟨a18, e17, e⟩ := bA_some e
    refine a_getN C cb11 30 (by decide) fl_X12_50 rfl dX12_trace_22 e17 ?_
    refine a_iload_n C dX12_trace_25 rfl 1 rfl ?_
    obtain ⟨v19, e20, e⟩ := bA_some e
    refine a_iald C dX12_trace_26 e20 ?_
    refine a_goto (tgt := 32) C dX12_trace_27 (by decide) ?_
    obtain rfl := sp1 e
    exact a_widen (Nat.le_of_ble_eq_true rfl) (Nat.le_of_ble_eq_true rfl) (a_sub [0, 1] rfl jj15)

set_option maxRecDepth 100000 in
def f_X12_count_L62 {β : Type} (k : Int32 → Int32 → Hp → Option (β)) (x0 : Nat) (x1 : Int32) : Nat → Hp → Int32 → Int32 → Option (β)
  | 0, _, _, _ => none
  | fuel + 1, h, x2, x3 => (if (8 : Int32) ≤ x3 then k x2 x3 h else bA (gN h x0 11 2) fun a7 => bA (ald h a7 0 x3) fun v8 => bA (if v8 < 0 then some (0 : Int32) else some (1 : Int32)) fun j11 => f_X12_count_L62 k x0 x1 fuel h (x2 + j11) (x3 + (1 : Int32)))

set_option maxRecDepth 100000 in
def f_X12_count_L124 {β : Type} (k : Int32 → Int32 → Hp → Option (β)) (x0 : Nat) (x1 : Int32) : Nat → Hp → Int32 → Int32 → Option (β)
  | 0, _, _, _ => none
  | fuel + 1, h, x2, x3 => bA (gN h x0 11 5) fun a45 => bA (ald h a45 0 (0 : Int32)) fun v46 => (if v46 ≤ x3 then k x2 x3 h else bA (gN h x0 11 5) fun a50 => b2 (f_X12_of h a50 x3 (4 : Int32)) fun r53 h51 => f_X12_count_L124 k x0 x1 fuel h51 (x2 + r53) (x3 + (1 : Int32)))

set_option maxRecDepth 100000 in
def f_X12_count (h : Hp) (x0 : Nat) (x1 : Int32) : Option (Int32 × Hp) := bA (pV h x0 11 0 (.inl (0 : Int32))) fun h2 => (if x1 = (0 : Int32) then f_X12_count_L62 (fun y15 y16 h14 => some (y15, h14)) x0 x1 2000 h2 (0 : Int32) (0 : Int32) else (if x1 = (1 : Int32) then bA (gN h2 x0 11 5) fun a19 => bA (ald h2 a19 0 (0 : Int32)) fun v20 => some (v20, h2) else (if x1 = (2 : Int32) then bA (gN h2 x0 11 5) fun a24 => bA (ald h2 a24 0 (1 : Int32)) fun v25 => some (v25, h2) else (if x1 = (3 : Int32) then bA (gN h2 x0 11 5) fun a29 => b2 (f_X12_weightOf h2 a29) fun r32 h30 => some (r32, h30) else (if x1 = (4 : Int32) then bA (gN h2 x0 11 5) fun a40 => bA (ald h2 a40 0 (5 : Int32)) fun v41 => some (v41, h2) else (if x1 = (5 : Int32) then f_X12_count_L124 (fun y60 y61 h59 => some (y60, h59)) x0 x1 2000 h2 (0 : Int32) (0 : Int32) else (if x1 = (6 : Int32) then bA (gI h2 x0 11 27) fun g64 => some (g64, h2) else (if x1 = (7 : Int32) then bA (gI h2 x0 11 9) fun g67 => some (g67, h2) else (if x1 = (8 : Int32) then bA (gI h2 x0 11 11) fun g70 => some (g70, h2) else some ((-1000001 : Int32), h2))))))))))

theorem m_X12_count : MI yX12_count cX12_count 4 (some .int) 1 := ⟨co_X12_count, ini_X12, by decide, by decide +kernel⟩
set_option maxRecDepth 100000 in
set_option maxHeartbeats 4000000 in
theorem w_X12_count_L62 {G : Gm} {lo : Nat} {ce sl : Nat} (C : CX G lo cX12_count RX12 (some .int) ({ frames := 1, cells := 0, slots := 0, locals := 22 } : Room) 4) {β : Type} {res : β} {k : Int32 → Int32 → Hp → Option (β)} {x0 : Nat} {x1 : Int32} (hk : ∀ (h : Hp) (x2 : Int32) (x3 : Int32), k x2 x3 h = some res → AW G lo ce sl 91 [(0, .ref (lo + x0)), (1, .int x1), (2, .int x2), (3, .int x3)] [] h) (hce : ce ≤ 0) (hsl : sl ≤ 0) : ∀ (fuel : Nat) (h : Hp) (x2 : Int32) (x3 : Int32), f_X12_count_L62 k x0 x1 fuel h x2 x3 = some res → AW G lo ce sl 62 [(0, .ref (lo + x0)), (1, .int x1), (2, .int x2), (3, .int x3)] [] h := by
  intro fuel
  induction fuel with
  | zero =>
    intro h x2 x3 e
    cases (show (none : Option (β)) = some res from e)
  | succ fuel ih =>
    intro h x2 x3 e
    rw [f_X12_count_L62] at e
    refine a_iload_n C dX12_count_62 rfl 3 rfl ?_
    refine a_bipush (v := (8 : Int32)) C dX12_count_63 (by decide) ?_
    refine a_icmp_ge (tgt := 91) C dX12_count_65 (by decide) (fun c5 => ?_) (fun c5 => ?_)
    · have e := ip c5 e
      exact a_sub [0, 1, 2, 3] rfl (hk _ _ _ e)
    · have e := iN c5 e
      refine a_iload_n C dX12_count_68 rfl 2 rfl ?_
      refine a_aload_n C dX12_count_69 rfl 0 rfl ?_
      obtain ⟨a7, e6, e⟩ := bA_some e
      refine a_getN C cb11 2 (by decide) fl_X12_7 rfl dX12_count_70 e6 ?_
      refine a_iload_n C dX12_count_73 rfl 3 rfl ?_
      obtain ⟨v8, e9, e⟩ := bA_some e
      refine a_iald C dX12_count_74 e9 ?_
      obtain ⟨j11, eb13, e⟩ := bA_some e
      have jj12 : AW G lo ce sl 83 [(0, .ref (lo + x0)), (1, .int x1), (2, .int x2), (3, .int x3)] [.int j11, .int x2] h := by
        refine a_iadd C dX12_count_83 ?_
        refine a_istore_n (lv2 := [(2, .int (x2 + j11)), (0, .ref (lo + x0)), (1, .int x1), (3, .int x3)]) C dX12_count_84 rfl (by decide) rfl ?_
        refine a_iinc (v := x3 + (1 : Int32)) (lv2 := [(3, .int (x3 + (1 : Int32))), (2, .int (x2 + j11)), (0, .ref (lo + x0)), (1, .int x1)]) C dX12_count_85 3 rfl rfl (by decide) rfl ?_
        refine a_goto (tgt := 62) C dX12_count_88 (by decide) ?_
        exact a_sub [2, 3, 1, 0] rfl (ih _ _ _ e)
      have e := eb13
      refine a_if_lt (tgt := 82) C dX12_count_75 (by decide) (fun c10 => ?_) (fun c10 => ?_)
      · have e := ip c10 e
        refine a_iconst (v := (0 : Int32)) C dX12_count_82 (by decide) ?_
        obtain rfl := sp1 e
        exact a_widen (Nat.le_refl _) (Nat.le_refl _) (a_sub [0, 1, 2, 3] rfl jj12)
      · have e := iN c10 e
        refine a_iconst (v := (1 : Int32)) C dX12_count_78 (by decide) ?_
        refine a_goto (tgt := 83) C dX12_count_79 (by decide) ?_
        obtain rfl := sp1 e
        exact a_widen (Nat.le_refl _) (Nat.le_refl _) (a_sub [0, 1, 2, 3] rfl jj12)
set_option maxRecDepth 100000 in
set_option maxHeartbeats 4000000 in
theorem w_X12_count_L124 {G : Gm} {lo : Nat} {ce sl : Nat} (C : CX G lo cX12_count RX12 (some .int) ({ frames := 1, cells := 0, slots := 0, locals := 22 } : Room) 4) {β : Type} {res : β} {k : Int32 → Int32 → Hp → Option (β)} {x0 : Nat} {x1 : Int32} (hk : ∀ (h : Hp) (x2 : Int32) (x3 : Int32), k x2 x3 h = some res → AW G lo ce sl 152 [(0, .ref (lo + x0)), (1, .int x1), (2, .int x2), (3, .int x3)] [] h) (hce : ce ≤ 0) (hsl : sl ≤ 0) : ∀ (fuel : Nat) (h : Hp) (x2 : Int32) (x3 : Int32), f_X12_count_L124 k x0 x1 fuel h x2 x3 = some res → AW G lo ce sl 124 [(0, .ref (lo + x0)), (1, .int x1), (2, .int x2), (3, .int x3)] [] h := by
  intro fuel
  induction fuel with
  | zero =>
    intro h x2 x3 e
    cases (show (none : Option (β)) = some res from e)
  | succ fuel ih =>
    intro h x2 x3 e
    rw [f_X12_count_L124] at e
    refine a_iload_n C dX12_count_124 rfl 3 rfl ?_
    refine a_aload_n C dX12_count_125 rfl 0 rfl ?_
    obtain ⟨a45, e44, e⟩ := bA_some e
    refine a_getN C cb11 5 (by decide) fl_X12_19 rfl dX12_count_126 e44 ?_
    refine a_iconst (v := (0 : Int32)) C dX12_count_129 (by decide) ?_
    obtain ⟨v46, e47, e⟩ := bA_some e
    refine a_iald C dX12_count_130 e47 ?_
    refine a_icmp_ge (tgt := 152) C dX12_count_131 (by decide) (fun c48 => ?_) (fun c48 => ?_)
    · have e := ip c48 e
      exact a_sub [0, 1, 2, 3] rfl (hk _ _ _ e)
    · have e := iN c48 e
      refine a_iload_n C dX12_count_134 rfl 2 rfl ?_
      refine a_aload_n C dX12_count_135 rfl 0 rfl ?_
      obtain ⟨a50, e49, e⟩ := bA_some e
      refine a_getN C cb11 5 (by decide) fl_X12_19 rfl dX12_count_136 e49 ?_
      refine a_iload_n C dX12_count_139 rfl 3 rfl ?_
      refine a_iconst (v := (4 : Int32)) C dX12_count_140 (by decide) ?_
      obtain ⟨r53, h51, e52, e⟩ := b2_some e
      refine a_callS (as := [.ref (lo + a50), .int x3, .int (4 : Int32)]) (rest := [.int x2]) C m_X12_of sm_X12_of ml_X12_167 rfl (Nat.le_of_ble_eq_true rfl) (Nat.le_of_ble_eq_true rfl) (by exact hce) (by exact hsl) (Nat.le_of_ble_eq_true rfl) dX12_count_141 (k_X12_of e52) rfl ?_
      show AW G lo ce sl 144 [(0, .ref (lo + x0)), (1, .int x1), (2, .int x2), (3, .int x3)] [.int r53, .int x2] h51
      refine a_iadd C dX12_count_144 ?_
      refine a_istore_n (lv2 := [(2, .int (x2 + r53)), (0, .ref (lo + x0)), (1, .int x1), (3, .int x3)]) C dX12_count_145 rfl (by decide) rfl ?_
      refine a_iinc (v := x3 + (1 : Int32)) (lv2 := [(3, .int (x3 + (1 : Int32))), (2, .int (x2 + r53)), (0, .ref (lo + x0)), (1, .int x1)]) C dX12_count_146 3 rfl rfl (by decide) rfl ?_
      refine a_goto (tgt := 124) C dX12_count_149 (by decide) ?_
      exact a_sub [2, 3, 1, 0] rfl (ih _ _ _ e)
set_option maxRecDepth 100000 in
set_option maxHeartbeats 4000000 in
theorem k_X12_count {lo : Nat} {h : Hp} {x0 : Nat} {x1 : Int32} {r : Int32} {h' : Hp} (e : f_X12_count h x0 x1 = some (r, h')) : ∀ l d, AC l d lo yX12_count cX12_count 4 (some .int) ({ frames := 1, cells := 0, slots := 0, locals := 22 } : Room) [.ref (lo + x0), .int x1] h (some (.int r)) h' := by
  intro l d
  refine AC_of (by decide) (Nat.le_of_ble_eq_true rfl) ?_
  intro G C _ _ q
  unfold f_X12_count at e
  show AW G lo 0 0 0 [(0, .ref (lo + x0)), (1, .int x1)] [] h
  refine a_aload_n C dX12_count_0 rfl 0 rfl ?_
  refine a_iconst (v := (0 : Int32)) C dX12_count_1 (by decide) ?_
  obtain ⟨h2, e1, e⟩ := bA_some e
  refine a_putI C cb11 0 (by decide) fl_X12_53 rfl (by decide +kernel) dX12_count_2 e1 ?_
  refine a_iconst (v := (0 : Int32)) C dX12_count_5 (by decide) ?_
  refine a_istore_n (lv2 := [(2, .int (0 : Int32)), (0, .ref (lo + x0)), (1, .int x1)]) C dX12_count_6 rfl (by decide) rfl ?_
  refine a_iload_n C dX12_count_7 rfl 2 rfl ?_
  have hxx3 : x1 = x1 := rfl
  by_cases c4 : x1 = (0 : Int32)
  · have e := ip c4 e
    refine a_tableIn (tgt := 60) C dX12_count_8 (by rw [c4]; decide) (by rw [c4]; decide) (by rw [c4]; first | done | rfl) (by decide) ?_
    refine a_iconst (v := (0 : Int32)) C dX12_count_60 (by decide) ?_
    refine a_istore_n (lv2 := [(3, .int (0 : Int32)), (2, .int (0 : Int32)), (0, .ref (lo + x0)), (1, .int x1)]) C dX12_count_61 rfl (by decide) rfl ?_
    refine a_sub [2, 3, 1, 0] rfl (w_X12_count_L62 C ?_ (Nat.le_of_ble_eq_true rfl) (Nat.le_of_ble_eq_true rfl) 2000 _ _ _ e)
    intro h14 y15 y16 e
    show AW G lo 0 0 91 [(0, .ref (lo + x0)), (1, .int x1), (2, .int y15), (3, .int y16)] [] h14
    refine a_iload_n C dX12_count_91 rfl 2 rfl ?_
    obtain ⟨rfl, rfl⟩ := sp2 e
    exact a_iret C q (Nat.le_of_ble_eq_true rfl) (Nat.le_of_ble_eq_true rfl) dX12_count_92
  have e := iN c4 e
  by_cases c17 : x1 = (1 : Int32)
  · have e := ip c17 e
    refine a_tableIn (tgt := 93) C dX12_count_8 (by rw [c17]; decide) (by rw [c17]; decide) (by rw [c17]; first | done | rfl) (by decide) ?_
    refine a_aload_n C dX12_count_93 rfl 1 rfl ?_
    obtain ⟨a19, e18, e⟩ := bA_some e
    refine a_getN C cb11 5 (by decide) fl_X12_19 rfl dX12_count_94 e18 ?_
    refine a_iconst (v := (0 : Int32)) C dX12_count_97 (by decide) ?_
    obtain ⟨v20, e21, e⟩ := bA_some e
    refine a_iald C dX12_count_98 e21 ?_
    obtain ⟨rfl, rfl⟩ := sp2 e
    exact a_iret C q (Nat.le_of_ble_eq_true rfl) (Nat.le_of_ble_eq_true rfl) dX12_count_99
  have e := iN c17 e
  by_cases c22 : x1 = (2 : Int32)
  · have e := ip c22 e
    refine a_tableIn (tgt := 100) C dX12_count_8 (by rw [c22]; decide) (by rw [c22]; decide) (by rw [c22]; first | done | rfl) (by decide) ?_
    refine a_aload_n C dX12_count_100 rfl 1 rfl ?_
    obtain ⟨a24, e23, e⟩ := bA_some e
    refine a_getN C cb11 5 (by decide) fl_X12_19 rfl dX12_count_101 e23 ?_
    refine a_iconst (v := (1 : Int32)) C dX12_count_104 (by decide) ?_
    obtain ⟨v25, e26, e⟩ := bA_some e
    refine a_iald C dX12_count_105 e26 ?_
    obtain ⟨rfl, rfl⟩ := sp2 e
    exact a_iret C q (Nat.le_of_ble_eq_true rfl) (Nat.le_of_ble_eq_true rfl) dX12_count_106
  have e := iN c22 e
  by_cases c27 : x1 = (3 : Int32)
  · have e := ip c27 e
    refine a_tableIn (tgt := 107) C dX12_count_8 (by rw [c27]; decide) (by rw [c27]; decide) (by rw [c27]; first | done | rfl) (by decide) ?_
    refine a_aload_n C dX12_count_107 rfl 1 rfl ?_
    obtain ⟨a29, e28, e⟩ := bA_some e
    refine a_getN C cb11 5 (by decide) fl_X12_19 rfl dX12_count_108 e28 ?_
    obtain ⟨r32, h30, e31, e⟩ := b2_some e
    refine a_callS (as := [.ref (lo + a29)]) (rest := []) C m_X12_weightOf sm_X12_weightOf ml_X12_244 rfl (Nat.le_of_ble_eq_true rfl) (Nat.le_of_ble_eq_true rfl) (Nat.le_of_ble_eq_true rfl) (Nat.le_of_ble_eq_true rfl) (Nat.le_of_ble_eq_true rfl) dX12_count_111 (k_X12_weightOf e31) rfl ?_
    show AW G lo 0 0 114 [(2, .int (0 : Int32)), (0, .ref (lo + x0)), (1, .int x1)] [.int r32] h30
    obtain ⟨rfl, rfl⟩ := sp2 e
    exact a_iret C q (Nat.le_of_ble_eq_true rfl) (Nat.le_of_ble_eq_true rfl) dX12_count_114
  have e := iN c27 e
  by_cases c38 : x1 = (4 : Int32)
  · have e := ip c38 e
    refine a_tableIn (tgt := 115) C dX12_count_8 (by rw [c38]; decide) (by rw [c38]; decide) (by rw [c38]; first | done | rfl) (by decide) ?_
    refine a_aload_n C dX12_count_115 rfl 1 rfl ?_
    obtain ⟨a40, e39, e⟩ := bA_some e
    refine a_getN C cb11 5 (by decide) fl_X12_19 rfl dX12_count_116 e39 ?_
    refine a_iconst (v := (5 : Int32)) C dX12_count_119 (by decide) ?_
    obtain ⟨v41, e42, e⟩ := bA_some e
    refine a_iald C dX12_count_120 e42 ?_
    obtain ⟨rfl, rfl⟩ := sp2 e
    exact a_iret C q (Nat.le_of_ble_eq_true rfl) (Nat.le_of_ble_eq_true rfl) dX12_count_121
  have e := iN c38 e
  by_cases c43 : x1 = (5 : Int32)
  · have e := ip c43 e
    refine a_tableIn (tgt := 122) C dX12_count_8 (by rw [c43]; decide) (by rw [c43]; decide) (by rw [c43]; first | done | rfl) (by decide) ?_
    refine a_iconst (v := (0 : Int32)) C dX12_count_122 (by decide) ?_
    refine a_istore_n (lv2 := [(3, .int (0 : Int32)), (2, .int (0 : Int32)), (0, .ref (lo + x0)), (1, .int x1)]) C dX12_count_123 rfl (by decide) rfl ?_
    refine a_sub [2, 3, 1, 0] rfl (w_X12_count_L124 C ?_ (Nat.le_of_ble_eq_true rfl) (Nat.le_of_ble_eq_true rfl) 2000 _ _ _ e)
    intro h59 y60 y61 e
    show AW G lo 0 0 152 [(0, .ref (lo + x0)), (1, .int x1), (2, .int y60), (3, .int y61)] [] h59
    refine a_iload_n C dX12_count_152 rfl 2 rfl ?_
    obtain ⟨rfl, rfl⟩ := sp2 e
    exact a_iret C q (Nat.le_of_ble_eq_true rfl) (Nat.le_of_ble_eq_true rfl) dX12_count_153
  have e := iN c43 e
  by_cases c62 : x1 = (6 : Int32)
  · have e := ip c62 e
    refine a_tableIn (tgt := 154) C dX12_count_8 (by rw [c62]; decide) (by rw [c62]; decide) (by rw [c62]; first | done | rfl) (by decide) ?_
    refine a_aload_n C dX12_count_154 rfl 1 rfl ?_
    obtain ⟨g64, e63, e⟩ := bA_some e
    refine a_getI C cb11 27 (by decide) fl_X12_164 rfl dX12_count_155 e63 ?_
    obtain ⟨rfl, rfl⟩ := sp2 e
    exact a_iret C q (Nat.le_of_ble_eq_true rfl) (Nat.le_of_ble_eq_true rfl) dX12_count_158
  have e := iN c62 e
  by_cases c65 : x1 = (7 : Int32)
  · have e := ip c65 e
    refine a_tableIn (tgt := 159) C dX12_count_8 (by rw [c65]; decide) (by rw [c65]; decide) (by rw [c65]; first | done | rfl) (by decide) ?_
    refine a_aload_n C dX12_count_159 rfl 1 rfl ?_
    obtain ⟨g67, e66, e⟩ := bA_some e
    refine a_getI C cb11 9 (by decide) fl_X12_161 rfl dX12_count_160 e66 ?_
    obtain ⟨rfl, rfl⟩ := sp2 e
    exact a_iret C q (Nat.le_of_ble_eq_true rfl) (Nat.le_of_ble_eq_true rfl) dX12_count_163
  have e := iN c65 e
  by_cases c68 : x1 = (8 : Int32)
  · have e := ip c68 e
    refine a_tableIn (tgt := 164) C dX12_count_8 (by rw [c68]; decide) (by rw [c68]; decide) (by rw [c68]; first | done | rfl) (by decide) ?_
    refine a_aload_n C dX12_count_164 rfl 1 rfl ?_
    obtain ⟨g70, e69, e⟩ := bA_some e
    refine a_getI C cb11 11 (by decide) fl_X12_80 rfl dX12_count_165 e69 ?_
    obtain ⟨rfl, rfl⟩ := sp2 e
    exact a_iret C q (Nat.le_of_ble_eq_true rfl) (Nat.le_of_ble_eq_true rfl) dX12_count_168
  have e := iN c68 e
  refine a_tableOut (tgt := 169) C dX12_count_8 (Classical.byContradiction fun hz => ?_) (by decide) ?_
  · have hz2 : x1.toInt = 0 ∨ x1.toInt = 1 ∨ x1.toInt = 2 ∨ x1.toInt = 3 ∨ x1.toInt = 4 ∨ x1.toInt = 5 ∨ x1.toInt = 6 ∨ x1.toInt = 7 ∨ x1.toInt = 8 := by omega
    rcases hz2 with hz3 | hz3 | hz3 | hz3 | hz3 | hz3 | hz3 | hz3 | hz3
    · exact c4 (Int32.toInt_inj.mp (hz3.trans (by decide)))
    · exact c17 (Int32.toInt_inj.mp (hz3.trans (by decide)))
    · exact c22 (Int32.toInt_inj.mp (hz3.trans (by decide)))
    · exact c27 (Int32.toInt_inj.mp (hz3.trans (by decide)))
    · exact c38 (Int32.toInt_inj.mp (hz3.trans (by decide)))
    · exact c43 (Int32.toInt_inj.mp (hz3.trans (by decide)))
    · exact c62 (Int32.toInt_inj.mp (hz3.trans (by decide)))
    · exact c65 (Int32.toInt_inj.mp (hz3.trans (by decide)))
    · exact c68 (Int32.toInt_inj.mp (hz3.trans (by decide)))
  · refine a_ldc C ko_X12_73 dX12_count_169 ?_
    obtain ⟨rfl, rfl⟩ := sp2 e
    exact a_iret C q (Nat.le_of_ble_eq_true rfl) (Nat.le_of_ble_eq_true rfl) dX12_count_171

set_option maxRecDepth 100000 in
def f_X12_status (h : Hp) (x0 : Nat) : Option (Int32 × Hp) := bA (pV h x0 11 0 (.inl (0 : Int32))) fun h2 => bA (gI h2 x0 11 1) fun g4 => some (g4, h2)

theorem m_X12_status : MI yX12_status cX12_status 1 (some .int) 0 := ⟨co_X12_status, ini_X12, by decide, by decide +kernel⟩
set_option maxRecDepth 100000 in
set_option maxHeartbeats 4000000 in
theorem k_X12_status {lo : Nat} {h : Hp} {x0 : Nat} {r : Int32} {h' : Hp} (e : f_X12_status h x0 = some (r, h')) : ∀ l d, AC l d lo yX12_status cX12_status 1 (some .int) ({ frames := 0, cells := 0, slots := 0, locals := 0 } : Room) [.ref (lo + x0)] h (some (.int r)) h' := by
  intro l d
  refine AC_of (by decide) (Nat.le_of_ble_eq_true rfl) ?_
  intro G C _ _ q
  unfold f_X12_status at e
  show AW G lo 0 0 0 [(0, .ref (lo + x0))] [] h
  refine a_aload_n C dX12_status_0 rfl 0 rfl ?_
  refine a_iconst (v := (0 : Int32)) C dX12_status_1 (by decide) ?_
  obtain ⟨h2, e1, e⟩ := bA_some e
  refine a_putI C cb11 0 (by decide) fl_X12_53 rfl (by decide +kernel) dX12_status_2 e1 ?_
  refine a_aload_n C dX12_status_5 rfl 0 rfl ?_
  obtain ⟨g4, e3, e⟩ := bA_some e
  refine a_getI C cb11 1 (by decide) fl_X12_57 rfl dX12_status_6 e3 ?_
  obtain ⟨rfl, rfl⟩ := sp2 e
  exact a_iret C q (Nat.le_of_ble_eq_true rfl) (Nat.le_of_ble_eq_true rfl) dX12_status_9
