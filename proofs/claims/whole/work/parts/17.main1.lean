set_option maxRecDepth 100000 in
def f_X11_init_L126 {β : Type} (k : Int32 → Hp → Option (β)) (x0 : Nat) : Nat → Hp → Int32 → Option (β)
  | 0, _, _ => none
  | fuel + 1, h, x1 => bA (gN h x0 10 0) fun a88 => bA (qln h a88 2) fun n89 => (if n89 ≤ x1 then k x1 h else bA (gN h x0 10 0) fun a93 => nw h (.inr (.inr (7, [.inr none, .inl 0, .inl 0]))) fun q95 h94 => bA (f_X8_init h94 q95 ) fun h96 => bA (astq h96 a93 2 x1 (some q95)) fun h104 => f_X11_init_L126 k x0 fuel h104 (x1 + (1 : Int32)))

set_option maxRecDepth 100000 in
def f_X11_init_L156 {β : Type} (k : Int32 → Hp → Option (β)) (x0 : Nat) : Nat → Hp → Int32 → Option (β)
  | 0, _, _ => none
  | fuel + 1, h, x1 => bA (gN h x0 10 7) fun a109 => bA (qln h a109 3) fun n110 => (if n110 ≤ x1 then k x1 h else bA (gN h x0 10 7) fun a114 => nw h (.inr (.inr (2, [.inr none, .inr none, .inr none, .inl 0, .inl 0, .inl 0, .inl 0, .inl 0, .inl 0]))) fun q116 h115 => bA (f_X3_init h115 q116 ) fun h117 => bA (astq h117 a114 3 x1 (some q116)) fun h125 => f_X11_init_L156 k x0 fuel h125 (x1 + (1 : Int32)))

set_option maxRecDepth 100000 in
def f_X11_init_L186 {β : Type} (k : Int32 → Hp → Option (β)) (x0 : Nat) : Nat → Hp → Int32 → Option (β)
  | 0, _, _ => none
  | fuel + 1, h, x1 => bA (gN h x0 10 8) fun a130 => bA (qln h a130 3) fun n131 => (if n131 ≤ x1 then k x1 h else bA (gN h x0 10 8) fun a135 => nw h (.inr (.inr (2, [.inr none, .inr none, .inr none, .inl 0, .inl 0, .inl 0, .inl 0, .inl 0, .inl 0]))) fun q137 h136 => bA (f_X3_init h136 q137 ) fun h138 => bA (astq h138 a135 3 x1 (some q137)) fun h146 => f_X11_init_L186 k x0 fuel h146 (x1 + (1 : Int32)))

set_option maxRecDepth 100000 in
def f_X11_init_L216 {β : Type} (k : Int32 → Hp → Option (β)) (x0 : Nat) : Nat → Hp → Int32 → Option (β)
  | 0, _, _ => none
  | fuel + 1, h, x1 => bA (gN h x0 10 10) fun a151 => bA (qln h a151 3) fun n152 => (if n152 ≤ x1 then k x1 h else bA (gN h x0 10 10) fun a156 => nw h (.inr (.inr (2, [.inr none, .inr none, .inr none, .inl 0, .inl 0, .inl 0, .inl 0, .inl 0, .inl 0]))) fun q158 h157 => bA (f_X3_init h157 q158 ) fun h159 => bA (astq h159 a156 3 x1 (some q158)) fun h167 => f_X11_init_L216 k x0 fuel h167 (x1 + (1 : Int32)))

set_option maxRecDepth 100000 in
def f_X11_init (h : Hp) (x0 : Nat) : Option (Hp) := nw h (.inr (.inl (2, 8, fun _ => none))) fun q2 h1 => bA (pV h1 x0 10 0 (.inr (some q2))) fun h4 => nw h4 (.inr (.inr (6, [.inr none, .inr none, .inl 0, .inl 0, .inl 0]))) fun q6 h5 => bA (f_X7_init h5 q6 ) fun h7 => bA (pV h7 x0 10 1 (.inr (some q6))) fun h16 => nw h16 (.inr (.inr (9, [.inr none, .inr none, .inr none, .inl 0, .inl 0, .inl 0, .inl 0, .inl 0, .inl 0, .inl 0, .inl 0]))) fun q18 h17 => bA (f_X10_init h17 q18 ) fun h19 => bA (pV h19 x0 10 2 (.inr (some q18))) fun h28 => bA (gN h28 x0 10 2) fun a30 => bA (gN h28 a30 9 0) fun a32 => bA (pV h28 x0 10 3 (.inr (some a32))) fun h34 => bA (gN h34 x0 10 2) fun a36 => bA (gN h34 a36 9 1) fun a38 => bA (pV h34 x0 10 4 (.inr (some a38))) fun h40 => nw h40 (.inr (.inr (9, [.inr none, .inr none, .inr none, .inl 0, .inl 0, .inl 0, .inl 0, .inl 0, .inl 0, .inl 0, .inl 0]))) fun q42 h41 => bA (f_X10_init h41 q42 ) fun h43 => bA (pV h43 x0 10 5 (.inr (some q42))) fun h52 => bA (gN h52 x0 10 5) fun a54 => bA (gN h52 a54 9 0) fun a56 => bA (pV h52 x0 10 6 (.inr (some a56))) fun h58 => nw h58 (.inr (.inl (3, 24, fun _ => none))) fun q60 h59 => bA (pV h59 x0 10 7 (.inr (some q60))) fun h62 => nw h62 (.inr (.inl (3, 2, fun _ => none))) fun q64 h63 => bA (pV h63 x0 10 8 (.inr (some q64))) fun h66 => nw h66 (.inr (.inr (5, [.inr none, .inl 0]))) fun q68 h67 => bA (f_X6_init h67 q68 (16 : Int32)) fun h69 => bA (pV h69 x0 10 9 (.inr (some q68))) fun h78 => nw h78 (.inr (.inl (3, 3, fun _ => none))) fun q80 h79 => bA (pV h79 x0 10 10 (.inr (some q80))) fun h82 => nw h82 (.inl (0, 3, fun _ => 0)) fun q84 h83 => bA (pV h83 x0 10 11 (.inr (some q84))) fun h86 => f_X11_init_L126 (fun y107 h106 => f_X11_init_L156 (fun y128 h127 => f_X11_init_L186 (fun y149 h148 => f_X11_init_L216 (fun y170 h169 => some h169) x0 4 h148 (0 : Int32)) x0 3 h127 (0 : Int32)) x0 25 h106 (0 : Int32)) x0 9 h86 (0 : Int32)

theorem m_X11_init : MI yX11_init cX11_init 2 none 0 := ⟨co_X11_init, ini_X11, by decide, by decide +kernel⟩
set_option maxRecDepth 100000 in
set_option maxHeartbeats 4000000 in
theorem w_X11_init_L126 {G : Gm} {lo : Nat} (C : CX G lo cX11_init RX11 none ({ frames := 3, cells := 175, slots := 1861, locals := 65 } : Room) 2) {β : Type} {res : β} {k : Int32 → Hp → Option (β)} {x0 : Nat} {cx sx : Nat} (hcx : cx ≤ 175) (hsx : sx ≤ 1861) (hk : ∀ (h : Hp) (x1 : Int32), k x1 h = some res → AW G lo cx sx 154 [(0, .ref (lo + x0)), (1, .int x1)] [] h) : ∀ (fuel ce sl : Nat) (h : Hp) (x1 : Int32), ce + fuel * 2 ≤ cx → sl + fuel * 43 ≤ sx → f_X11_init_L126 k x0 fuel h x1 = some res → AW G lo ce sl 126 [(0, .ref (lo + x0)), (1, .int x1)] [] h := by
  intro fuel
  induction fuel with
  | zero =>
    intro ce sl h x1 _ _ e
    cases (show (none : Option (β)) = some res from e)
  | succ fuel ih =>
    intro ce sl h x1 hc1 hs1 e
    rw [f_X11_init_L126] at e
    refine a_iload_n C dX11_init_126 rfl 1 rfl ?_
    refine a_aload_n C dX11_init_127 rfl 0 rfl ?_
    obtain ⟨a88, e87, e⟩ := bA_some e
    refine a_getN C cb10 0 (by decide) fl_X11_11 rfl dX11_init_128 e87 ?_
    obtain ⟨n89, e90, e⟩ := bA_some e
    refine a_qln C (by decide) dX11_init_131 e90 ?_
    refine a_icmp_ge (tgt := 154) C dX11_init_132 (by decide) (fun c91 => ?_) (fun c91 => ?_)
    · have e := ip c91 e
      exact a_sub [0, 1] rfl (a_widen (by omega) (by omega) (hk _ _ e))
    · have e := iN c91 e
      refine a_aload_n C dX11_init_135 rfl 0 rfl ?_
      obtain ⟨a93, e92, e⟩ := bA_some e
      refine a_getN C cb10 0 (by decide) fl_X11_11 rfl dX11_init_136 e92 ?_
      refine a_iload_n C dX11_init_139 rfl 1 rfl ?_
      refine a_new C cb7 [.inr none, .inl 0, .inl 0] kl_X11_9 ins_X8 ini_X8 (by decide) rfl (by show (ce + 1) ≤ (175 : Nat); omega) (by show (sl + 3) ≤ (1861 : Nat); omega) dX11_init_140 ?_
      obtain ⟨q95, h94, e0_q95, e1_h94, e⟩ := nw_some e
      rw [← e0_q95, ← e1_h94]
      show AW G lo (ce + 1) (sl + 3) 143 [(0, .ref (lo + x0)), (1, .int x1)] [.ref (lo + q95), .int x1, .ref (lo + a93)] h94
      refine a_dup C dX11_init_143 rfl ?_
      obtain ⟨h96, e97, e⟩ := bA_some e
      refine a_callIN (as := []) (rest := [.ref (lo + q95), .int x1, .ref (lo + a93)]) C m_X8_init rfl im_X8_init bn_X11_69 rfl (Nat.le_of_ble_eq_true rfl) (Nat.le_of_ble_eq_true rfl) (by show (ce + 2) ≤ (175 : Nat); omega) (by show (sl + 43) ≤ (1861 : Nat); omega) (Nat.le_of_ble_eq_true rfl) dX11_init_144 (k_X8_init e97) rfl ?_
      show AW G lo (ce + 2) (sl + 43) 147 [(0, .ref (lo + x0)), (1, .int x1)] [.ref (lo + q95), .int x1, .ref (lo + a93)] h96
      obtain ⟨h104, e105, e⟩ := bA_some e
      refine a_astq (r := (some q95)) C dX11_init_147 e105 ?_
      refine a_iinc (v := x1 + (1 : Int32)) (lv2 := [(1, .int (x1 + (1 : Int32))), (0, .ref (lo + x0))]) C dX11_init_148 1 rfl rfl (by decide) rfl ?_
      refine a_goto (tgt := 126) C dX11_init_151 (by decide) ?_
      exact a_sub [1, 0] rfl (a_widen (ce2 := ce + 2) (sl2 := sl + 43) (by omega) (by omega) (ih _ _ _ _ (by omega) (by omega) e))
set_option maxRecDepth 100000 in
set_option maxHeartbeats 4000000 in
theorem w_X11_init_L156 {G : Gm} {lo : Nat} (C : CX G lo cX11_init RX11 none ({ frames := 3, cells := 175, slots := 1861, locals := 65 } : Room) 2) {β : Type} {res : β} {k : Int32 → Hp → Option (β)} {x0 : Nat} {cx sx : Nat} (hcx : cx ≤ 175) (hsx : sx ≤ 1861) (hk : ∀ (h : Hp) (x1 : Int32), k x1 h = some res → AW G lo cx sx 184 [(0, .ref (lo + x0)), (1, .int x1)] [] h) : ∀ (fuel ce sl : Nat) (h : Hp) (x1 : Int32), ce + fuel * 4 ≤ cx → sl + fuel * 33 ≤ sx → f_X11_init_L156 k x0 fuel h x1 = some res → AW G lo ce sl 156 [(0, .ref (lo + x0)), (1, .int x1)] [] h := by
  intro fuel
  induction fuel with
  | zero =>
    intro ce sl h x1 _ _ e
    cases (show (none : Option (β)) = some res from e)
  | succ fuel ih =>
    intro ce sl h x1 hc1 hs1 e
    rw [f_X11_init_L156] at e
    refine a_iload_n C dX11_init_156 rfl 1 rfl ?_
    refine a_aload_n C dX11_init_157 rfl 0 rfl ?_
    obtain ⟨a109, e108, e⟩ := bA_some e
    refine a_getN C cb10 7 (by decide) fl_X11_47 rfl dX11_init_158 e108 ?_
    obtain ⟨n110, e111, e⟩ := bA_some e
    refine a_qln C (by decide) dX11_init_161 e111 ?_
    refine a_icmp_ge (tgt := 184) C dX11_init_162 (by decide) (fun c112 => ?_) (fun c112 => ?_)
    · have e := ip c112 e
      exact a_sub [0, 1] rfl (a_widen (by omega) (by omega) (hk _ _ e))
    · have e := iN c112 e
      refine a_aload_n C dX11_init_165 rfl 0 rfl ?_
      obtain ⟨a114, e113, e⟩ := bA_some e
      refine a_getN C cb10 7 (by decide) fl_X11_47 rfl dX11_init_166 e113 ?_
      refine a_iload_n C dX11_init_169 rfl 1 rfl ?_
      refine a_new C cb2 [.inr none, .inr none, .inr none, .inl 0, .inl 0, .inl 0, .inl 0, .inl 0, .inl 0] kl_X11_45 ins_X3 ini_X3 (by decide) rfl (by show (ce + 1) ≤ (175 : Nat); omega) (by show (sl + 9) ≤ (1861 : Nat); omega) dX11_init_170 ?_
      obtain ⟨q116, h115, e0_q116, e1_h115, e⟩ := nw_some e
      rw [← e0_q116, ← e1_h115]
      show AW G lo (ce + 1) (sl + 9) 173 [(0, .ref (lo + x0)), (1, .int x1)] [.ref (lo + q116), .int x1, .ref (lo + a114)] h115
      refine a_dup C dX11_init_173 rfl ?_
      obtain ⟨h117, e118, e⟩ := bA_some e
      refine a_callIN (as := []) (rest := [.ref (lo + q116), .int x1, .ref (lo + a114)]) C m_X3_init rfl im_X3_init bn_X11_70 rfl (Nat.le_of_ble_eq_true rfl) (Nat.le_of_ble_eq_true rfl) (by show (ce + 4) ≤ (175 : Nat); omega) (by show (sl + 33) ≤ (1861 : Nat); omega) (Nat.le_of_ble_eq_true rfl) dX11_init_174 (k_X3_init e118) rfl ?_
      show AW G lo (ce + 4) (sl + 33) 177 [(0, .ref (lo + x0)), (1, .int x1)] [.ref (lo + q116), .int x1, .ref (lo + a114)] h117
      obtain ⟨h125, e126, e⟩ := bA_some e
      refine a_astq (r := (some q116)) C dX11_init_177 e126 ?_
      refine a_iinc (v := x1 + (1 : Int32)) (lv2 := [(1, .int (x1 + (1 : Int32))), (0, .ref (lo + x0))]) C dX11_init_178 1 rfl rfl (by decide) rfl ?_
      refine a_goto (tgt := 156) C dX11_init_181 (by decide) ?_
      exact a_sub [1, 0] rfl (a_widen (ce2 := ce + 4) (sl2 := sl + 33) (by omega) (by omega) (ih _ _ _ _ (by omega) (by omega) e))
set_option maxRecDepth 100000 in
set_option maxHeartbeats 4000000 in
theorem w_X11_init_L186 {G : Gm} {lo : Nat} (C : CX G lo cX11_init RX11 none ({ frames := 3, cells := 175, slots := 1861, locals := 65 } : Room) 2) {β : Type} {res : β} {k : Int32 → Hp → Option (β)} {x0 : Nat} {cx sx : Nat} (hcx : cx ≤ 175) (hsx : sx ≤ 1861) (hk : ∀ (h : Hp) (x1 : Int32), k x1 h = some res → AW G lo cx sx 214 [(0, .ref (lo + x0)), (1, .int x1)] [] h) : ∀ (fuel ce sl : Nat) (h : Hp) (x1 : Int32), ce + fuel * 4 ≤ cx → sl + fuel * 33 ≤ sx → f_X11_init_L186 k x0 fuel h x1 = some res → AW G lo ce sl 186 [(0, .ref (lo + x0)), (1, .int x1)] [] h := by
  intro fuel
  induction fuel with
  | zero =>
    intro ce sl h x1 _ _ e
    cases (show (none : Option (β)) = some res from e)
  | succ fuel ih =>
    intro ce sl h x1 hc1 hs1 e
    rw [f_X11_init_L186] at e
    refine a_iload_n C dX11_init_186 rfl 1 rfl ?_
    refine a_aload_n C dX11_init_187 rfl 0 rfl ?_
    obtain ⟨a130, e129, e⟩ := bA_some e
    refine a_getN C cb10 8 (by decide) fl_X11_51 rfl dX11_init_188 e129 ?_
    obtain ⟨n131, e132, e⟩ := bA_some e
    refine a_qln C (by decide) dX11_init_191 e132 ?_
    refine a_icmp_ge (tgt := 214) C dX11_init_192 (by decide) (fun c133 => ?_) (fun c133 => ?_)
    · have e := ip c133 e
      exact a_sub [0, 1] rfl (a_widen (by omega) (by omega) (hk _ _ e))
    · have e := iN c133 e
      refine a_aload_n C dX11_init_195 rfl 0 rfl ?_
      obtain ⟨a135, e134, e⟩ := bA_some e
      refine a_getN C cb10 8 (by decide) fl_X11_51 rfl dX11_init_196 e134 ?_
      refine a_iload_n C dX11_init_199 rfl 1 rfl ?_
      refine a_new C cb2 [.inr none, .inr none, .inr none, .inl 0, .inl 0, .inl 0, .inl 0, .inl 0, .inl 0] kl_X11_45 ins_X3 ini_X3 (by decide) rfl (by show (ce + 1) ≤ (175 : Nat); omega) (by show (sl + 9) ≤ (1861 : Nat); omega) dX11_init_200 ?_
      obtain ⟨q137, h136, e0_q137, e1_h136, e⟩ := nw_some e
      rw [← e0_q137, ← e1_h136]
      show AW G lo (ce + 1) (sl + 9) 203 [(0, .ref (lo + x0)), (1, .int x1)] [.ref (lo + q137), .int x1, .ref (lo + a135)] h136
      refine a_dup C dX11_init_203 rfl ?_
      obtain ⟨h138, e139, e⟩ := bA_some e
      refine a_callIN (as := []) (rest := [.ref (lo + q137), .int x1, .ref (lo + a135)]) C m_X3_init rfl im_X3_init bn_X11_70 rfl (Nat.le_of_ble_eq_true rfl) (Nat.le_of_ble_eq_true rfl) (by show (ce + 4) ≤ (175 : Nat); omega) (by show (sl + 33) ≤ (1861 : Nat); omega) (Nat.le_of_ble_eq_true rfl) dX11_init_204 (k_X3_init e139) rfl ?_
      show AW G lo (ce + 4) (sl + 33) 207 [(0, .ref (lo + x0)), (1, .int x1)] [.ref (lo + q137), .int x1, .ref (lo + a135)] h138
      obtain ⟨h146, e147, e⟩ := bA_some e
      refine a_astq (r := (some q137)) C dX11_init_207 e147 ?_
      refine a_iinc (v := x1 + (1 : Int32)) (lv2 := [(1, .int (x1 + (1 : Int32))), (0, .ref (lo + x0))]) C dX11_init_208 1 rfl rfl (by decide) rfl ?_
      refine a_goto (tgt := 186) C dX11_init_211 (by decide) ?_
      exact a_sub [1, 0] rfl (a_widen (ce2 := ce + 4) (sl2 := sl + 33) (by omega) (by omega) (ih _ _ _ _ (by omega) (by omega) e))
set_option maxRecDepth 100000 in
set_option maxHeartbeats 4000000 in
theorem w_X11_init_L216 {G : Gm} {lo : Nat} (C : CX G lo cX11_init RX11 none ({ frames := 3, cells := 175, slots := 1861, locals := 65 } : Room) 2) {β : Type} {res : β} {k : Int32 → Hp → Option (β)} {x0 : Nat} {cx sx : Nat} (hcx : cx ≤ 175) (hsx : sx ≤ 1861) (hk : ∀ (h : Hp) (x1 : Int32), k x1 h = some res → AW G lo cx sx 244 [(0, .ref (lo + x0)), (1, .int x1)] [] h) : ∀ (fuel ce sl : Nat) (h : Hp) (x1 : Int32), ce + fuel * 4 ≤ cx → sl + fuel * 33 ≤ sx → f_X11_init_L216 k x0 fuel h x1 = some res → AW G lo ce sl 216 [(0, .ref (lo + x0)), (1, .int x1)] [] h := by
  intro fuel
  induction fuel with
  | zero =>
    intro ce sl h x1 _ _ e
    cases (show (none : Option (β)) = some res from e)
  | succ fuel ih =>
    intro ce sl h x1 hc1 hs1 e
    rw [f_X11_init_L216] at e
    refine a_iload_n C dX11_init_216 rfl 1 rfl ?_
    refine a_aload_n C dX11_init_217 rfl 0 rfl ?_
    obtain ⟨a151, e150, e⟩ := bA_some e
    refine a_getN C cb10 10 (by decide) fl_X11_62 rfl dX11_init_218 e150 ?_
    obtain ⟨n152, e153, e⟩ := bA_some e
    refine a_qln C (by decide) dX11_init_221 e153 ?_
    refine a_icmp_ge (tgt := 244) C dX11_init_222 (by decide) (fun c154 => ?_) (fun c154 => ?_)
    · have e := ip c154 e
      exact a_sub [0, 1] rfl (a_widen (by omega) (by omega) (hk _ _ e))
    · have e := iN c154 e
      refine a_aload_n C dX11_init_225 rfl 0 rfl ?_
      obtain ⟨a156, e155, e⟩ := bA_some e
      refine a_getN C cb10 10 (by decide) fl_X11_62 rfl dX11_init_226 e155 ?_
      refine a_iload_n C dX11_init_229 rfl 1 rfl ?_
      refine a_new C cb2 [.inr none, .inr none, .inr none, .inl 0, .inl 0, .inl 0, .inl 0, .inl 0, .inl 0] kl_X11_45 ins_X3 ini_X3 (by decide) rfl (by show (ce + 1) ≤ (175 : Nat); omega) (by show (sl + 9) ≤ (1861 : Nat); omega) dX11_init_230 ?_
      obtain ⟨q158, h157, e0_q158, e1_h157, e⟩ := nw_some e
      rw [← e0_q158, ← e1_h157]
      show AW G lo (ce + 1) (sl + 9) 233 [(0, .ref (lo + x0)), (1, .int x1)] [.ref (lo + q158), .int x1, .ref (lo + a156)] h157
      refine a_dup C dX11_init_233 rfl ?_
      obtain ⟨h159, e160, e⟩ := bA_some e
      refine a_callIN (as := []) (rest := [.ref (lo + q158), .int x1, .ref (lo + a156)]) C m_X3_init rfl im_X3_init bn_X11_70 rfl (Nat.le_of_ble_eq_true rfl) (Nat.le_of_ble_eq_true rfl) (by show (ce + 4) ≤ (175 : Nat); omega) (by show (sl + 33) ≤ (1861 : Nat); omega) (Nat.le_of_ble_eq_true rfl) dX11_init_234 (k_X3_init e160) rfl ?_
      show AW G lo (ce + 4) (sl + 33) 237 [(0, .ref (lo + x0)), (1, .int x1)] [.ref (lo + q158), .int x1, .ref (lo + a156)] h159
      obtain ⟨h167, e168, e⟩ := bA_some e
      refine a_astq (r := (some q158)) C dX11_init_237 e168 ?_
      refine a_iinc (v := x1 + (1 : Int32)) (lv2 := [(1, .int (x1 + (1 : Int32))), (0, .ref (lo + x0))]) C dX11_init_238 1 rfl rfl (by decide) rfl ?_
      refine a_goto (tgt := 216) C dX11_init_241 (by decide) ?_
      exact a_sub [1, 0] rfl (a_widen (ce2 := ce + 4) (sl2 := sl + 33) (by omega) (by omega) (ih _ _ _ _ (by omega) (by omega) e))
set_option maxRecDepth 100000 in
set_option maxHeartbeats 4000000 in
theorem k_X11_init {lo : Nat} {h : Hp} {x0 : Nat} {h' : Hp} (e : f_X11_init h x0 = some h') : ∀ l d, AC l d lo yX11_init cX11_init 2 none ({ frames := 3, cells := 175, slots := 1861, locals := 65 } : Room) [.ref (lo + x0)] h none h' := by
  intro l d
  refine AC_of (by decide) (Nat.le_of_ble_eq_true rfl) ?_
  intro G C hN _ q
  unfold f_X11_init at e
  show AW G lo 0 0 0 [(0, .ref (lo + x0))] [] h
  refine a_aload_n C dX11_init_0 rfl 0 rfl ?_
  refine a_objinit C ml_X11_3 im_objinit co_objinit (Nat.le_of_ble_eq_true rfl) (Nat.le_of_ble_eq_true rfl) dX11_init_1 ?_
  refine a_aload_n C dX11_init_4 rfl 0 rfl ?_
  refine a_bipush (v := (8 : Int32)) C dX11_init_5 (by decide) ?_
  refine a_newq (N := 8) (t := 2) C (fun _ => rfl) (fun _ _ q => q.2.2.1) kl_X11_9 (by decide) (by decide) (Nat.le_of_ble_eq_true rfl) (Nat.le_of_ble_eq_true rfl) (Nat.le_of_ble_eq_true rfl) dX11_init_7 ?_
  obtain ⟨q2, h1, e0_q2, e1_h1, e⟩ := nw_some e
  rw [← e0_q2, ← e1_h1]
  show AW G lo 1 8 10 [(0, .ref (lo + x0))] [.ref (lo + q2), .ref (lo + x0)] h1
  obtain ⟨h4, e3, e⟩ := bA_some e
  refine a_putFR (t := (.array (.object "DoorsBehind$Row"))) C hN cb10 0 (by decide) fl_X11_11 rfl rfl (by decide +kernel) rfl rfl dX11_init_10 e3 ?_
  refine a_aload_n C dX11_init_13 rfl 0 rfl ?_
  refine a_new C cb6 [.inr none, .inr none, .inl 0, .inl 0, .inl 0] kl_X11_15 ins_X7 ini_X7 (by decide) rfl (Nat.le_of_ble_eq_true rfl) (Nat.le_of_ble_eq_true rfl) dX11_init_14 ?_
  obtain ⟨q6, h5, e0_q6, e1_h5, e⟩ := nw_some e
  rw [← e0_q6, ← e1_h5]
  show AW G lo 2 13 17 [(0, .ref (lo + x0))] [.ref (lo + q6), .ref (lo + x0)] h5
  refine a_dup C dX11_init_17 rfl ?_
  obtain ⟨h7, e8, e⟩ := bA_some e
  refine a_callIN (as := []) (rest := [.ref (lo + q6), .ref (lo + x0)]) C m_X7_init rfl im_X7_init bn_X11_17 rfl (Nat.le_of_ble_eq_true rfl) (Nat.le_of_ble_eq_true rfl) (Nat.le_of_ble_eq_true rfl) (Nat.le_of_ble_eq_true rfl) (Nat.le_of_ble_eq_true rfl) dX11_init_18 (k_X7_init e8) rfl ?_
  show AW G lo 7 156 21 [(0, .ref (lo + x0))] [.ref (lo + q6), .ref (lo + x0)] h7
  obtain ⟨h16, e15, e⟩ := bA_some e
  refine a_putFR (t := (.object "DoorsBehind$Reader")) C hN cb10 1 (by decide) fl_X11_18 rfl rfl (by decide +kernel) rfl rfl dX11_init_21 e15 ?_
  refine a_aload_n C dX11_init_24 rfl 0 rfl ?_
  refine a_new C cb9 [.inr none, .inr none, .inr none, .inl 0, .inl 0, .inl 0, .inl 0, .inl 0, .inl 0, .inl 0, .inl 0] kl_X11_22 ins_X10 ini_X10 (by decide) rfl (Nat.le_of_ble_eq_true rfl) (Nat.le_of_ble_eq_true rfl) dX11_init_25 ?_
  obtain ⟨q18, h17, e0_q18, e1_h17, e⟩ := nw_some e
  rw [← e0_q18, ← e1_h17]
  show AW G lo 8 167 28 [(0, .ref (lo + x0))] [.ref (lo + q18), .ref (lo + x0)] h17
  refine a_dup C dX11_init_28 rfl ?_
  obtain ⟨h19, e20, e⟩ := bA_some e
  refine a_callIN (as := []) (rest := [.ref (lo + q18), .ref (lo + x0)]) C m_X10_init rfl im_X10_init bn_X11_24 rfl (Nat.le_of_ble_eq_true rfl) (Nat.le_of_ble_eq_true rfl) (Nat.le_of_ble_eq_true rfl) (Nat.le_of_ble_eq_true rfl) (Nat.le_of_ble_eq_true rfl) dX11_init_29 (k_X10_init e20) rfl ?_
  show AW G lo 15 250 32 [(0, .ref (lo + x0))] [.ref (lo + q18), .ref (lo + x0)] h19
  obtain ⟨h28, e27, e⟩ := bA_some e
  refine a_putFR (t := (.object "DoorsBehind$Walk")) C hN cb10 2 (by decide) fl_X11_25 rfl rfl (by decide +kernel) rfl rfl dX11_init_32 e27 ?_
  refine a_aload_n C dX11_init_35 rfl 0 rfl ?_
  refine a_aload_n C dX11_init_36 rfl 0 rfl ?_
  obtain ⟨a30, e29, e⟩ := bA_some e
  refine a_getN C cb10 2 (by decide) fl_X11_25 rfl dX11_init_37 e29 ?_
  obtain ⟨a32, e31, e⟩ := bA_some e
  refine a_getN C cb9 0 (by decide) fl_X11_29 rfl dX11_init_40 e31 ?_
  obtain ⟨h34, e33, e⟩ := bA_some e
  refine a_putFR (t := (.object "DoorsBehind$House")) C hN cb10 3 (by decide) fl_X11_33 rfl rfl (by decide +kernel) rfl rfl dX11_init_43 e33 ?_
  refine a_aload_n C dX11_init_46 rfl 0 rfl ?_
  refine a_aload_n C dX11_init_47 rfl 0 rfl ?_
  obtain ⟨a36, e35, e⟩ := bA_some e
  refine a_getN C cb10 2 (by decide) fl_X11_25 rfl dX11_init_48 e35 ?_
  obtain ⟨a38, e37, e⟩ := bA_some e
  refine a_getN C cb9 1 (by decide) fl_X11_34 rfl dX11_init_51 e37 ?_
  obtain ⟨h40, e39, e⟩ := bA_some e
  refine a_putFR (t := (.object "DoorsBehind$Numbers")) C hN cb10 4 (by decide) fl_X11_38 rfl rfl (by decide +kernel) rfl rfl dX11_init_54 e39 ?_
  refine a_aload_n C dX11_init_57 rfl 0 rfl ?_
  refine a_new C cb9 [.inr none, .inr none, .inr none, .inl 0, .inl 0, .inl 0, .inl 0, .inl 0, .inl 0, .inl 0, .inl 0] kl_X11_22 ins_X10 ini_X10 (by decide) rfl (Nat.le_of_ble_eq_true rfl) (Nat.le_of_ble_eq_true rfl) dX11_init_58 ?_
  obtain ⟨q42, h41, e0_q42, e1_h41, e⟩ := nw_some e
  rw [← e0_q42, ← e1_h41]
  show AW G lo 16 261 61 [(0, .ref (lo + x0))] [.ref (lo + q42), .ref (lo + x0)] h41
  refine a_dup C dX11_init_61 rfl ?_
  obtain ⟨h43, e44, e⟩ := bA_some e
  refine a_callIN (as := []) (rest := [.ref (lo + q42), .ref (lo + x0)]) C m_X10_init rfl im_X10_init bn_X11_24 rfl (Nat.le_of_ble_eq_true rfl) (Nat.le_of_ble_eq_true rfl) (Nat.le_of_ble_eq_true rfl) (Nat.le_of_ble_eq_true rfl) (Nat.le_of_ble_eq_true rfl) dX11_init_62 (k_X10_init e44) rfl ?_
  show AW G lo 23 344 65 [(0, .ref (lo + x0))] [.ref (lo + q42), .ref (lo + x0)] h43
  obtain ⟨h52, e51, e⟩ := bA_some e
  refine a_putFR (t := (.object "DoorsBehind$Walk")) C hN cb10 5 (by decide) fl_X11_39 rfl rfl (by decide +kernel) rfl rfl dX11_init_65 e51 ?_
  refine a_aload_n C dX11_init_68 rfl 0 rfl ?_
  refine a_aload_n C dX11_init_69 rfl 0 rfl ?_
  obtain ⟨a54, e53, e⟩ := bA_some e
  refine a_getN C cb10 5 (by decide) fl_X11_39 rfl dX11_init_70 e53 ?_
  obtain ⟨a56, e55, e⟩ := bA_some e
  refine a_getN C cb9 0 (by decide) fl_X11_29 rfl dX11_init_73 e55 ?_
  obtain ⟨h58, e57, e⟩ := bA_some e
  refine a_putFR (t := (.object "DoorsBehind$House")) C hN cb10 6 (by decide) fl_X11_42 rfl rfl (by decide +kernel) rfl rfl dX11_init_76 e57 ?_
  refine a_aload_n C dX11_init_79 rfl 0 rfl ?_
  refine a_bipush (v := (24 : Int32)) C dX11_init_80 (by decide) ?_
  refine a_newq (N := 24) (t := 3) C (fun _ => rfl) (fun _ _ q => q.2.2.2.1) kl_X11_45 (by decide) (by decide) (Nat.le_of_ble_eq_true rfl) (Nat.le_of_ble_eq_true rfl) (Nat.le_of_ble_eq_true rfl) dX11_init_82 ?_
  obtain ⟨q60, h59, e0_q60, e1_h59, e⟩ := nw_some e
  rw [← e0_q60, ← e1_h59]
  show AW G lo 24 368 85 [(0, .ref (lo + x0))] [.ref (lo + q60), .ref (lo + x0)] h59
  obtain ⟨h62, e61, e⟩ := bA_some e
  refine a_putFR (t := (.array (.object "DoorsBehind$House"))) C hN cb10 7 (by decide) fl_X11_47 rfl rfl (by decide +kernel) rfl rfl dX11_init_85 e61 ?_
  refine a_aload_n C dX11_init_88 rfl 0 rfl ?_
  refine a_iconst (v := (2 : Int32)) C dX11_init_89 (by decide) ?_
  refine a_newq (N := 2) (t := 3) C (fun _ => rfl) (fun _ _ q => q.2.2.2.1) kl_X11_45 (by decide) (by decide) (Nat.le_of_ble_eq_true rfl) (Nat.le_of_ble_eq_true rfl) (Nat.le_of_ble_eq_true rfl) dX11_init_90 ?_
  obtain ⟨q64, h63, e0_q64, e1_h63, e⟩ := nw_some e
  rw [← e0_q64, ← e1_h63]
  show AW G lo 25 370 93 [(0, .ref (lo + x0))] [.ref (lo + q64), .ref (lo + x0)] h63
  obtain ⟨h66, e65, e⟩ := bA_some e
  refine a_putFR (t := (.array (.object "DoorsBehind$House"))) C hN cb10 8 (by decide) fl_X11_51 rfl rfl (by decide +kernel) rfl rfl dX11_init_93 e65 ?_
  refine a_aload_n C dX11_init_96 rfl 0 rfl ?_
  refine a_new C cb5 [.inr none, .inl 0] kl_X11_54 ins_X6 ini_X6 (by decide) rfl (Nat.le_of_ble_eq_true rfl) (Nat.le_of_ble_eq_true rfl) dX11_init_97 ?_
  obtain ⟨q68, h67, e0_q68, e1_h67, e⟩ := nw_some e
  rw [← e0_q68, ← e1_h67]
  show AW G lo 26 372 100 [(0, .ref (lo + x0))] [.ref (lo + q68), .ref (lo + x0)] h67
  refine a_dup C dX11_init_100 rfl ?_
  refine a_bipush (v := (16 : Int32)) C dX11_init_101 (by decide) ?_
  obtain ⟨h69, e70, e⟩ := bA_some e
  refine a_callI (as := [.int (16 : Int32)]) (rest := [.ref (lo + q68), .ref (lo + x0)]) C m_X6_init rfl im_X6_init ml_X11_56 rfl (Nat.le_of_ble_eq_true rfl) (Nat.le_of_ble_eq_true rfl) (Nat.le_of_ble_eq_true rfl) (Nat.le_of_ble_eq_true rfl) (Nat.le_of_ble_eq_true rfl) dX11_init_103 (k_X6_init e70) rfl ?_
  show AW G lo 27 412 106 [(0, .ref (lo + x0))] [.ref (lo + q68), .ref (lo + x0)] h69
  obtain ⟨h78, e77, e⟩ := bA_some e
  refine a_putFR (t := (.object "DoorsBehind$Numbers")) C hN cb10 9 (by decide) fl_X11_59 rfl rfl (by decide +kernel) rfl rfl dX11_init_106 e77 ?_
  refine a_aload_n C dX11_init_109 rfl 0 rfl ?_
  refine a_iconst (v := (3 : Int32)) C dX11_init_110 (by decide) ?_
  refine a_newq (N := 3) (t := 3) C (fun _ => rfl) (fun _ _ q => q.2.2.2.1) kl_X11_45 (by decide) (by decide) (Nat.le_of_ble_eq_true rfl) (Nat.le_of_ble_eq_true rfl) (Nat.le_of_ble_eq_true rfl) dX11_init_111 ?_
  obtain ⟨q80, h79, e0_q80, e1_h79, e⟩ := nw_some e
  rw [← e0_q80, ← e1_h79]
  show AW G lo 28 415 114 [(0, .ref (lo + x0))] [.ref (lo + q80), .ref (lo + x0)] h79
  obtain ⟨h82, e81, e⟩ := bA_some e
  refine a_putFR (t := (.array (.object "DoorsBehind$House"))) C hN cb10 10 (by decide) fl_X11_62 rfl rfl (by decide +kernel) rfl rfl dX11_init_114 e81 ?_
  refine a_aload_n C dX11_init_117 rfl 0 rfl ?_
  refine a_iconst (v := (3 : Int32)) C dX11_init_118 (by decide) ?_
  refine a_newa (N := 3) C (by decide) (by decide) (Nat.le_of_ble_eq_true rfl) (Nat.le_of_ble_eq_true rfl) (Nat.le_of_ble_eq_true rfl) dX11_init_119 ?_
  obtain ⟨q84, h83, e0_q84, e1_h83, e⟩ := nw_some e
  rw [← e0_q84, ← e1_h83]
  show AW G lo 29 418 121 [(0, .ref (lo + x0))] [.ref (lo + q84), .ref (lo + x0)] h83
  obtain ⟨h86, e85, e⟩ := bA_some e
  refine a_putFR (t := (.array .int)) C hN cb10 11 (by decide) fl_X11_65 rfl rfl (by decide +kernel) rfl rfl dX11_init_121 e85 ?_
  refine a_iconst (v := (0 : Int32)) C dX11_init_124 (by decide) ?_
  refine a_istore_n (lv2 := [(1, .int (0 : Int32)), (0, .ref (lo + x0))]) C dX11_init_125 rfl (by decide) rfl ?_
  refine a_sub [1, 0] rfl (w_X11_init_L126 (cx := 47) (sx := 805) C (Nat.le_of_ble_eq_true rfl) (Nat.le_of_ble_eq_true rfl) ?_ 9 _ _ _ _ (Nat.le_of_ble_eq_true rfl) (Nat.le_of_ble_eq_true rfl) e)
  intro h106 y107 e
  show AW G lo 47 805 154 [(0, .ref (lo + x0)), (1, .int y107)] [] h106
  refine a_iconst (v := (0 : Int32)) C dX11_init_154 (by decide) ?_
  refine a_istore_n (lv2 := [(1, .int (0 : Int32)), (0, .ref (lo + x0))]) C dX11_init_155 rfl (by decide) rfl ?_
  refine a_sub [1, 0] rfl (w_X11_init_L156 (cx := 147) (sx := 1630) C (Nat.le_of_ble_eq_true rfl) (Nat.le_of_ble_eq_true rfl) ?_ 25 _ _ _ _ (Nat.le_of_ble_eq_true rfl) (Nat.le_of_ble_eq_true rfl) e)
  intro h127 y128 e
  show AW G lo 147 1630 184 [(0, .ref (lo + x0)), (1, .int y128)] [] h127
  refine a_iconst (v := (0 : Int32)) C dX11_init_184 (by decide) ?_
  refine a_istore_n (lv2 := [(1, .int (0 : Int32)), (0, .ref (lo + x0))]) C dX11_init_185 rfl (by decide) rfl ?_
  refine a_sub [1, 0] rfl (w_X11_init_L186 (cx := 159) (sx := 1729) C (Nat.le_of_ble_eq_true rfl) (Nat.le_of_ble_eq_true rfl) ?_ 3 _ _ _ _ (Nat.le_of_ble_eq_true rfl) (Nat.le_of_ble_eq_true rfl) e)
  intro h148 y149 e
  show AW G lo 159 1729 214 [(0, .ref (lo + x0)), (1, .int y149)] [] h148
  refine a_iconst (v := (0 : Int32)) C dX11_init_214 (by decide) ?_
  refine a_istore_n (lv2 := [(1, .int (0 : Int32)), (0, .ref (lo + x0))]) C dX11_init_215 rfl (by decide) rfl ?_
  refine a_sub [1, 0] rfl (w_X11_init_L216 (cx := 175) (sx := 1861) C (Nat.le_of_ble_eq_true rfl) (Nat.le_of_ble_eq_true rfl) ?_ 4 _ _ _ _ (Nat.le_of_ble_eq_true rfl) (Nat.le_of_ble_eq_true rfl) e)
  intro h169 y170 e
  show AW G lo 175 1861 244 [(0, .ref (lo + x0)), (1, .int y170)] [] h169
  obtain rfl := sp1 e
  exact a_vret C q (Nat.le_of_ble_eq_true rfl) (Nat.le_of_ble_eq_true rfl) dX11_init_244

set_option maxRecDepth 100000 in
def f_X11_found (h : Hp) (x0 : Nat) (x1 : Int32) : Option (Int32 × Hp) := bA (pV h x0 10 15 (.inl x1)) fun h2 => some (((-1000010 : Int32) - x1), h2)

theorem m_X11_found : MI yX11_found cX11_found 2 (some .int) 1 := ⟨co_X11_found, ini_X11, by decide, by decide +kernel⟩
set_option maxRecDepth 100000 in
set_option maxHeartbeats 4000000 in
theorem k_X11_found {lo : Nat} {h : Hp} {x0 : Nat} {x1 : Int32} {r : Int32} {h' : Hp} (e : f_X11_found h x0 x1 = some (r, h')) : ∀ l d, AC l d lo yX11_found cX11_found 2 (some .int) ({ frames := 0, cells := 0, slots := 0, locals := 0 } : Room) [.ref (lo + x0), .int x1] h (some (.int r)) h' := by
  intro l d
  refine AC_of (by decide) (Nat.le_of_ble_eq_true rfl) ?_
  intro G C _ _ q
  unfold f_X11_found at e
  show AW G lo 0 0 0 [(0, .ref (lo + x0)), (1, .int x1)] [] h
  refine a_aload_n C dX11_found_0 rfl 0 rfl ?_
  refine a_iload_n C dX11_found_1 rfl 1 rfl ?_
  obtain ⟨h2, e1, e⟩ := bA_some e
  refine a_putI C cb10 15 (by decide) fl_X11_346 rfl (by decide +kernel) dX11_found_2 e1 ?_
  refine a_ldc_w C ko_X11_349 dX11_found_5 ?_
  refine a_iload_n C dX11_found_8 rfl 1 rfl ?_
  refine a_isub C dX11_found_9 ?_
  obtain ⟨rfl, rfl⟩ := sp2 e
  exact a_iret C q (Nat.le_of_ble_eq_true rfl) (Nat.le_of_ble_eq_true rfl) dX11_found_10

set_option maxRecDepth 100000 in
def f_X11_well (h : Hp) (x0 : Nat) (x1 : Int32) : Option (Int32 × Hp) := bA (pV h x0 10 15 (.inl (0 : Int32))) fun h2 => some (x1, h2)

theorem m_X11_well : MI yX11_well cX11_well 2 (some .int) 1 := ⟨co_X11_well, ini_X11, by decide, by decide +kernel⟩
set_option maxRecDepth 100000 in
set_option maxHeartbeats 4000000 in
theorem k_X11_well {lo : Nat} {h : Hp} {x0 : Nat} {x1 : Int32} {r : Int32} {h' : Hp} (e : f_X11_well h x0 x1 = some (r, h')) : ∀ l d, AC l d lo yX11_well cX11_well 2 (some .int) ({ frames := 0, cells := 0, slots := 0, locals := 0 } : Room) [.ref (lo + x0), .int x1] h (some (.int r)) h' := by
  intro l d
  refine AC_of (by decide) (Nat.le_of_ble_eq_true rfl) ?_
  intro G C _ _ q
  unfold f_X11_well at e
  show AW G lo 0 0 0 [(0, .ref (lo + x0)), (1, .int x1)] [] h
  refine a_aload_n C dX11_well_0 rfl 0 rfl ?_
  refine a_iconst (v := (0 : Int32)) C dX11_well_1 (by decide) ?_
  obtain ⟨h2, e1, e⟩ := bA_some e
  refine a_putI C cb10 15 (by decide) fl_X11_346 rfl (by decide +kernel) dX11_well_2 e1 ?_
  refine a_iload_n C dX11_well_5 rfl 1 rfl ?_
  obtain ⟨rfl, rfl⟩ := sp2 e
  exact a_iret C q (Nat.le_of_ble_eq_true rfl) (Nat.le_of_ble_eq_true rfl) dX11_well_6

set_option maxRecDepth 100000 in
def f_X11_lacksRow (h : Hp) (x0 : Int32) : Option (Int32 × Hp) := bA (if x0 < 0 then some (1 : Int32) else (if x0 < (8 : Int32) then some (0 : Int32) else some (1 : Int32))) fun j2 => bA (bz j2) fun z6 => some (j2, h)

theorem m_X11_lacksRow : MI yX11_lacksRow cX11_lacksRow 1 (some .boolean) 1 := ⟨co_X11_lacksRow, ini_X11, by decide, by decide +kernel⟩
set_option maxRecDepth 100000 in
set_option maxHeartbeats 4000000 in
theorem k_X11_lacksRow {lo : Nat} {h : Hp} {x0 : Int32} {r : Int32} {h' : Hp} (e : f_X11_lacksRow h x0 = some (r, h')) : ∀ l d, AC l d lo yX11_lacksRow cX11_lacksRow 1 (some .boolean) ({ frames := 0, cells := 0, slots := 0, locals := 0 } : Room) [.int x0] h (some (.int r)) h' := by
  intro l d
  refine AC_of (by decide) (Nat.le_of_ble_eq_true rfl) ?_
  intro G C _ _ q
  unfold f_X11_lacksRow at e
  show AW G lo 0 0 0 [(0, .int x0)] [] h
  refine a_iload_n C dX11_lacksRow_0 rfl 0 rfl ?_
  obtain ⟨j2, eb4, e⟩ := bA_some e
  have jj3 : AW G lo 0 0 15 [(0, .int x0)] [.int j2] h := by
    obtain ⟨z6, e7, e⟩ := bA_some e
    obtain ⟨rfl, rfl⟩ := sp2 e
    exact a_zret C q (bz_some e7) (Nat.le_of_ble_eq_true rfl) (Nat.le_of_ble_eq_true rfl) dX11_lacksRow_15
  have e := eb4
  refine a_if_lt (tgt := 10) C dX11_lacksRow_1 (by decide) (fun c1 => ?_) (fun c1 => ?_)
  · have e := ip c1 e
    refine a_iconst (v := (1 : Int32)) C dX11_lacksRow_10 (by decide) ?_
    refine a_goto (tgt := 15) C dX11_lacksRow_11 (by decide) ?_
    obtain rfl := sp1 e
    exact a_widen (Nat.le_of_ble_eq_true rfl) (Nat.le_of_ble_eq_true rfl) (a_sub [0] rfl jj3)
  · have e := iN c1 e
    refine a_iload_n C dX11_lacksRow_4 rfl 0 rfl ?_
    refine a_bipush (v := (8 : Int32)) C dX11_lacksRow_5 (by decide) ?_
    refine a_icmp_lt (tgt := 14) C dX11_lacksRow_7 (by decide) (fun c5 => ?_) (fun c5 => ?_)
    · have e := ip c5 e
      refine a_iconst (v := (0 : Int32)) C dX11_lacksRow_14 (by decide) ?_
      obtain rfl := sp1 e
      exact a_widen (Nat.le_of_ble_eq_true rfl) (Nat.le_of_ble_eq_true rfl) (a_sub [0] rfl jj3)
    · have e := iN c5 e
      refine a_iconst (v := (1 : Int32)) C dX11_lacksRow_10 (by decide) ?_
      refine a_goto (tgt := 15) C dX11_lacksRow_11 (by decide) ?_
      obtain rfl := sp1 e
      exact a_widen (Nat.le_of_ble_eq_true rfl) (Nat.le_of_ble_eq_true rfl) (a_sub [0] rfl jj3)

set_option maxRecDepth 100000 in
def f_X11_isBadRoute (h : Hp) (x0 : Int32) (x1 : Int32) : Option (Int32 × Hp) := b2 (f_X11_lacksRow h x0) fun r3 h1 => bA (if r3 = 0 then (if x1 < 0 then some (1 : Int32) else (if x1 ≤ (8 : Int32) then some (0 : Int32) else some (1 : Int32))) else some (1 : Int32)) fun j10 => bA (bz j10) fun z15 => some (j10, h1)

theorem m_X11_isBadRoute : MI yX11_isBadRoute cX11_isBadRoute 2 (some .boolean) 2 := ⟨co_X11_isBadRoute, ini_X11, by decide, by decide +kernel⟩
set_option maxRecDepth 100000 in
set_option maxHeartbeats 4000000 in
theorem k_X11_isBadRoute {lo : Nat} {h : Hp} {x0 : Int32} {x1 : Int32} {r : Int32} {h' : Hp} (e : f_X11_isBadRoute h x0 x1 = some (r, h')) : ∀ l d, AC l d lo yX11_isBadRoute cX11_isBadRoute 2 (some .boolean) ({ frames := 1, cells := 0, slots := 0, locals := 20 } : Room) [.int x0, .int x1] h (some (.int r)) h' := by
  intro l d
  refine AC_of (by decide) (Nat.le_of_ble_eq_true rfl) ?_
  intro G C _ _ q
  unfold f_X11_isBadRoute at e
  show AW G lo 0 0 0 [(0, .int x0), (1, .int x1)] [] h
  refine a_iload_n C dX11_isBadRoute_0 rfl 0 rfl ?_
  obtain ⟨r3, h1, e2, e⟩ := b2_some e
  refine a_callS (as := [.int x0]) (rest := []) C m_X11_lacksRow sm_X11_lacksRow ml_X11_71 rfl (Nat.le_of_ble_eq_true rfl) (Nat.le_of_ble_eq_true rfl) (Nat.le_of_ble_eq_true rfl) (Nat.le_of_ble_eq_true rfl) (Nat.le_of_ble_eq_true rfl) dX11_isBadRoute_1 (k_X11_lacksRow e2) rfl ?_
  show AW G lo 0 0 4 [(0, .int x0), (1, .int x1)] [.int r3] h1
  obtain ⟨j10, eb12, e⟩ := bA_some e
  have jj11 : AW G lo 0 0 22 [(0, .int x0), (1, .int x1)] [.int j10] h1 := by
    obtain ⟨z15, e16, e⟩ := bA_some e
    obtain ⟨rfl, rfl⟩ := sp2 e
    exact a_zret C q (bz_some e16) (Nat.le_of_ble_eq_true rfl) (Nat.le_of_ble_eq_true rfl) dX11_isBadRoute_22
  have e := eb12
  refine a_if_ne (tgt := 17) C dX11_isBadRoute_4 (by decide) (fun c9 => ?_) (fun c9 => ?_)
  · have e := iN c9 e
    refine a_iconst (v := (1 : Int32)) C dX11_isBadRoute_17 (by decide) ?_
    refine a_goto (tgt := 22) C dX11_isBadRoute_18 (by decide) ?_
    obtain rfl := sp1 e
    exact a_widen (Nat.le_of_ble_eq_true rfl) (Nat.le_of_ble_eq_true rfl) (a_sub [0, 1] rfl jj11)
  · have e := ip c9 e
    refine a_iload_n C dX11_isBadRoute_7 rfl 1 rfl ?_
    refine a_if_lt (tgt := 17) C dX11_isBadRoute_8 (by decide) (fun c13 => ?_) (fun c13 => ?_)
    · have e := ip c13 e
      refine a_iconst (v := (1 : Int32)) C dX11_isBadRoute_17 (by decide) ?_
      refine a_goto (tgt := 22) C dX11_isBadRoute_18 (by decide) ?_
      obtain rfl := sp1 e
      exact a_widen (Nat.le_of_ble_eq_true rfl) (Nat.le_of_ble_eq_true rfl) (a_sub [0, 1] rfl jj11)
    · have e := iN c13 e
      refine a_iload_n C dX11_isBadRoute_11 rfl 1 rfl ?_
      refine a_bipush (v := (8 : Int32)) C dX11_isBadRoute_12 (by decide) ?_
      refine a_icmp_le (tgt := 21) C dX11_isBadRoute_14 (by decide) (fun c14 => ?_) (fun c14 => ?_)
      · have e := ip c14 e
        refine a_iconst (v := (0 : Int32)) C dX11_isBadRoute_21 (by decide) ?_
        obtain rfl := sp1 e
        exact a_widen (Nat.le_of_ble_eq_true rfl) (Nat.le_of_ble_eq_true rfl) (a_sub [0, 1] rfl jj11)
      · have e := iN c14 e
        refine a_iconst (v := (1 : Int32)) C dX11_isBadRoute_17 (by decide) ?_
        refine a_goto (tgt := 22) C dX11_isBadRoute_18 (by decide) ?_
        obtain rfl := sp1 e
        exact a_widen (Nat.le_of_ble_eq_true rfl) (Nat.le_of_ble_eq_true rfl) (a_sub [0, 1] rfl jj11)

set_option maxRecDepth 100000 in
def f_X11_lackOfRoute (h : Hp) (x0 : Nat) (x1 : Int32) (x2 : Int32) (x3 : Int32) : Option (Int32 × Hp) := b2 (f_X11_lacksRow h x1) fun r3 h1 => (if r3 = 0 then bA (gN h1 x0 10 0) fun a11 => bA (aldn h1 a11 2 x1) fun a13 => bA (isC h1 a13 7) fun u20 => b2 (f_X8_isMissing h1 a13 ) fun r16 h14 => (if r16 = 0 then bA (gN h14 x0 10 0) fun a25 => bA (aldn h14 a25 2 x1) fun a27 => bA (isC h14 a27 7) fun u34 => b2 (f_X8_holds h14 a27 x2 x3) fun r30 h28 => bA (if r30 = 0 then some (2 : Int32) else some (0 : Int32)) fun j38 => some (j38, h28) else some ((1 : Int32), h14)) else some ((1 : Int32), h1))

theorem m_X11_lackOfRoute : MI yX11_lackOfRoute cX11_lackOfRoute 4 (some .int) 3 := ⟨co_X11_lackOfRoute, ini_X11, by decide, by decide +kernel⟩
set_option maxRecDepth 100000 in
set_option maxHeartbeats 4000000 in
theorem k_X11_lackOfRoute {lo : Nat} {h : Hp} {x0 : Nat} {x1 : Int32} {x2 : Int32} {x3 : Int32} {r : Int32} {h' : Hp} (e : f_X11_lackOfRoute h x0 x1 x2 x3 = some (r, h')) : ∀ l d, AC l d lo yX11_lackOfRoute cX11_lackOfRoute 4 (some .int) ({ frames := 1, cells := 0, slots := 0, locals := 22 } : Room) [.ref (lo + x0), .int x1, .int x2, .int x3] h (some (.int r)) h' := by
  intro l d
  refine AC_of (by decide) (Nat.le_of_ble_eq_true rfl) ?_
  intro G C _ _ q
  unfold f_X11_lackOfRoute at e
  show AW G lo 0 0 0 [(0, .ref (lo + x0)), (1, .int x1), (2, .int x2), (3, .int x3)] [] h
  refine a_iload_n C dX11_lackOfRoute_0 rfl 1 rfl ?_
  obtain ⟨r3, h1, e2, e⟩ := b2_some e
  refine a_callS (as := [.int x1]) (rest := []) C m_X11_lacksRow sm_X11_lacksRow ml_X11_71 rfl (Nat.le_of_ble_eq_true rfl) (Nat.le_of_ble_eq_true rfl) (Nat.le_of_ble_eq_true rfl) (Nat.le_of_ble_eq_true rfl) (Nat.le_of_ble_eq_true rfl) dX11_lackOfRoute_1 (k_X11_lacksRow e2) rfl ?_
  show AW G lo 0 0 4 [(0, .ref (lo + x0)), (1, .int x1), (2, .int x2), (3, .int x3)] [.int r3] h1
  refine a_if_ne (tgt := 19) C dX11_lackOfRoute_4 (by decide) (fun c9 => ?_) (fun c9 => ?_)
  · have e := iN c9 e
    refine a_iconst (v := (1 : Int32)) C dX11_lackOfRoute_19 (by decide) ?_
    obtain ⟨rfl, rfl⟩ := sp2 e
    exact a_iret C q (Nat.le_of_ble_eq_true rfl) (Nat.le_of_ble_eq_true rfl) dX11_lackOfRoute_20
  · have e := ip c9 e
    refine a_aload_n C dX11_lackOfRoute_7 rfl 0 rfl ?_
    obtain ⟨a11, e10, e⟩ := bA_some e
    refine a_getN C cb10 0 (by decide) fl_X11_11 rfl dX11_lackOfRoute_8 e10 ?_
    refine a_iload_n C dX11_lackOfRoute_11 rfl 1 rfl ?_
    obtain ⟨a13, e12, e⟩ := bA_some e
    refine a_aldn C (by decide) dX11_lackOfRoute_12 e12 ?_
    obtain ⟨u20, ec19, e⟩ := bA_some e
    obtain ⟨fs18, eo17⟩ := isC_some ec19
    obtain ⟨r16, h14, e15, e⟩ := b2_some e
    refine a_callV (as := []) (rest := []) C m_X8_isMissing im_X8_isMissing cb7 se_X8_X8_isMissing_X8_isMissing ml_X11_87 rfl (Nat.le_of_ble_eq_true rfl) (Nat.le_of_ble_eq_true rfl) (Nat.le_of_ble_eq_true rfl) (Nat.le_of_ble_eq_true rfl) (Nat.le_of_ble_eq_true rfl) dX11_lackOfRoute_13 eo17 (k_X8_isMissing e15) rfl ?_
    show AW G lo 0 0 16 [(0, .ref (lo + x0)), (1, .int x1), (2, .int x2), (3, .int x3)] [.int r16] h14
    refine a_if_eq (tgt := 21) C dX11_lackOfRoute_16 (by decide) (fun c23 => ?_) (fun c23 => ?_)
    · have e := ip c23 e
      refine a_aload_n C dX11_lackOfRoute_21 rfl 0 rfl ?_
      obtain ⟨a25, e24, e⟩ := bA_some e
      refine a_getN C cb10 0 (by decide) fl_X11_11 rfl dX11_lackOfRoute_22 e24 ?_
      refine a_iload_n C dX11_lackOfRoute_25 rfl 1 rfl ?_
      obtain ⟨a27, e26, e⟩ := bA_some e
      refine a_aldn C (by decide) dX11_lackOfRoute_26 e26 ?_
      refine a_iload_n C dX11_lackOfRoute_27 rfl 2 rfl ?_
      refine a_iload_n C dX11_lackOfRoute_28 rfl 3 rfl ?_
      obtain ⟨u34, ec33, e⟩ := bA_some e
      obtain ⟨fs32, eo31⟩ := isC_some ec33
      obtain ⟨r30, h28, e29, e⟩ := b2_some e
      refine a_callV (as := [.int x2, .int x3]) (rest := []) C m_X8_holds im_X8_holds cb7 se_X8_X8_holds_X8_holds ml_X11_91 rfl (Nat.le_of_ble_eq_true rfl) (Nat.le_of_ble_eq_true rfl) (Nat.le_of_ble_eq_true rfl) (Nat.le_of_ble_eq_true rfl) (Nat.le_of_ble_eq_true rfl) dX11_lackOfRoute_29 eo31 (k_X8_holds e29) rfl ?_
      show AW G lo 0 0 32 [(0, .ref (lo + x0)), (1, .int x1), (2, .int x2), (3, .int x3)] [.int r30] h28
      obtain ⟨j38, eb40, e⟩ := bA_some e
      have jj39 : AW G lo 0 0 40 [(0, .ref (lo + x0)), (1, .int x1), (2, .int x2), (3, .int x3)] [.int j38] h28 := by
        obtain ⟨rfl, rfl⟩ := sp2 e
        exact a_iret C q (Nat.le_of_ble_eq_true rfl) (Nat.le_of_ble_eq_true rfl) dX11_lackOfRoute_40
      have e := eb40
      refine a_if_eq (tgt := 39) C dX11_lackOfRoute_32 (by decide) (fun c37 => ?_) (fun c37 => ?_)
      · have e := ip c37 e
        refine a_iconst (v := (2 : Int32)) C dX11_lackOfRoute_39 (by decide) ?_
        obtain rfl := sp1 e
        exact a_widen (Nat.le_of_ble_eq_true rfl) (Nat.le_of_ble_eq_true rfl) (a_sub [0, 1, 2, 3] rfl jj39)
      · have e := iN c37 e
        refine a_iconst (v := (0 : Int32)) C dX11_lackOfRoute_35 (by decide) ?_
        refine a_goto (tgt := 40) C dX11_lackOfRoute_36 (by decide) ?_
        obtain rfl := sp1 e
        exact a_widen (Nat.le_of_ble_eq_true rfl) (Nat.le_of_ble_eq_true rfl) (a_sub [0, 1, 2, 3] rfl jj39)
    · have e := iN c23 e
      refine a_iconst (v := (1 : Int32)) C dX11_lackOfRoute_19 (by decide) ?_
      obtain ⟨rfl, rfl⟩ := sp2 e
      exact a_iret C q (Nat.le_of_ble_eq_true rfl) (Nat.le_of_ble_eq_true rfl) dX11_lackOfRoute_20

set_option maxRecDepth 100000 in
def f_X11_isRule (h : Hp) (x0 : Int32) (x1 : Int32) : Option (Int32 × Hp) := (if x0 = (0 : Int32) then bA (if x1 < 0 then some (0 : Int32) else (if (63 : Int32) < x1 then some (0 : Int32) else some (1 : Int32))) fun j4 => bA (bz j4) fun z8 => some (j4, h) else (if x0 = (1 : Int32) then bA (if x1 < (1 : Int32) then some (0 : Int32) else (if (9 : Int32) < x1 then some (0 : Int32) else some (1 : Int32))) fun j12 => bA (bz j12) fun z16 => some (j12, h) else (if x0 = (2 : Int32) then bA (if x1 < (1 : Int32) then some (0 : Int32) else (if (60 : Int32) < x1 then some (0 : Int32) else some (1 : Int32))) fun j20 => bA (bz j20) fun z24 => some (j20, h) else some ((0 : Int32), h))))

theorem m_X11_isRule : MI yX11_isRule cX11_isRule 2 (some .boolean) 2 := ⟨co_X11_isRule, ini_X11, by decide, by decide +kernel⟩
set_option maxRecDepth 100000 in
set_option maxHeartbeats 4000000 in
theorem k_X11_isRule {lo : Nat} {h : Hp} {x0 : Int32} {x1 : Int32} {r : Int32} {h' : Hp} (e : f_X11_isRule h x0 x1 = some (r, h')) : ∀ l d, AC l d lo yX11_isRule cX11_isRule 2 (some .boolean) ({ frames := 0, cells := 0, slots := 0, locals := 0 } : Room) [.int x0, .int x1] h (some (.int r)) h' := by
  intro l d
  refine AC_of (by decide) (Nat.le_of_ble_eq_true rfl) ?_
  intro G C _ _ q
  unfold f_X11_isRule at e
  show AW G lo 0 0 0 [(0, .int x0), (1, .int x1)] [] h
  refine a_iload_n C dX11_isRule_0 rfl 0 rfl ?_
  have hxx1 : x0 = x0 := rfl
  by_cases c2 : x0 = (0 : Int32)
  · have e := ip c2 e
    refine a_tableIn (tgt := 28) C dX11_isRule_1 (by rw [c2]; decide) (by rw [c2]; decide) (by rw [c2]; first | done | rfl) (by decide) ?_
    refine a_iload_n C dX11_isRule_28 rfl 1 rfl ?_
    obtain ⟨j4, eb6, e⟩ := bA_some e
    have jj5 : AW G lo 0 0 43 [(0, .int x0), (1, .int x1)] [.int j4] h := by
      obtain ⟨z8, e9, e⟩ := bA_some e
      obtain ⟨rfl, rfl⟩ := sp2 e
      exact a_zret C q (bz_some e9) (Nat.le_of_ble_eq_true rfl) (Nat.le_of_ble_eq_true rfl) dX11_isRule_43
    have e := eb6
    refine a_if_lt (tgt := 42) C dX11_isRule_29 (by decide) (fun c3 => ?_) (fun c3 => ?_)
    · have e := ip c3 e
      refine a_iconst (v := (0 : Int32)) C dX11_isRule_42 (by decide) ?_
      obtain rfl := sp1 e
      exact a_widen (Nat.le_of_ble_eq_true rfl) (Nat.le_of_ble_eq_true rfl) (a_sub [0, 1] rfl jj5)
    · have e := iN c3 e
      refine a_iload_n C dX11_isRule_32 rfl 1 rfl ?_
      refine a_bipush (v := (63 : Int32)) C dX11_isRule_33 (by decide) ?_
      refine a_icmp_gt (tgt := 42) C dX11_isRule_35 (by decide) (fun c7 => ?_) (fun c7 => ?_)
      · have e := ip c7 e
        refine a_iconst (v := (0 : Int32)) C dX11_isRule_42 (by decide) ?_
        obtain rfl := sp1 e
        exact a_widen (Nat.le_of_ble_eq_true rfl) (Nat.le_of_ble_eq_true rfl) (a_sub [0, 1] rfl jj5)
      · have e := iN c7 e
        refine a_iconst (v := (1 : Int32)) C dX11_isRule_38 (by decide) ?_
        refine a_goto (tgt := 43) C dX11_isRule_39 (by decide) ?_
        obtain rfl := sp1 e
        exact a_widen (Nat.le_of_ble_eq_true rfl) (Nat.le_of_ble_eq_true rfl) (a_sub [0, 1] rfl jj5)
  have e := iN c2 e
  by_cases c10 : x0 = (1 : Int32)
  · have e := ip c10 e
    refine a_tableIn (tgt := 44) C dX11_isRule_1 (by rw [c10]; decide) (by rw [c10]; decide) (by rw [c10]; first | done | rfl) (by decide) ?_
    refine a_iload_n C dX11_isRule_44 rfl 1 rfl ?_
    refine a_iconst (v := (1 : Int32)) C dX11_isRule_45 (by decide) ?_
    obtain ⟨j12, eb14, e⟩ := bA_some e
    have jj13 : AW G lo 0 0 60 [(0, .int x0), (1, .int x1)] [.int j12] h := by
      obtain ⟨z16, e17, e⟩ := bA_some e
      obtain ⟨rfl, rfl⟩ := sp2 e
      exact a_zret C q (bz_some e17) (Nat.le_of_ble_eq_true rfl) (Nat.le_of_ble_eq_true rfl) dX11_isRule_60
    have e := eb14
    refine a_icmp_lt (tgt := 59) C dX11_isRule_46 (by decide) (fun c11 => ?_) (fun c11 => ?_)
    · have e := ip c11 e
      refine a_iconst (v := (0 : Int32)) C dX11_isRule_59 (by decide) ?_
      obtain rfl := sp1 e
      exact a_widen (Nat.le_of_ble_eq_true rfl) (Nat.le_of_ble_eq_true rfl) (a_sub [0, 1] rfl jj13)
    · have e := iN c11 e
      refine a_iload_n C dX11_isRule_49 rfl 1 rfl ?_
      refine a_bipush (v := (9 : Int32)) C dX11_isRule_50 (by decide) ?_
      refine a_icmp_gt (tgt := 59) C dX11_isRule_52 (by decide) (fun c15 => ?_) (fun c15 => ?_)
      · have e := ip c15 e
        refine a_iconst (v := (0 : Int32)) C dX11_isRule_59 (by decide) ?_
        obtain rfl := sp1 e
        exact a_widen (Nat.le_of_ble_eq_true rfl) (Nat.le_of_ble_eq_true rfl) (a_sub [0, 1] rfl jj13)
      · have e := iN c15 e
        refine a_iconst (v := (1 : Int32)) C dX11_isRule_55 (by decide) ?_
        refine a_goto (tgt := 60) C dX11_isRule_56 (by decide) ?_
        obtain rfl := sp1 e
        exact a_widen (Nat.le_of_ble_eq_true rfl) (Nat.le_of_ble_eq_true rfl) (a_sub [0, 1] rfl jj13)
  have e := iN c10 e
  by_cases c18 : x0 = (2 : Int32)
  · have e := ip c18 e
    refine a_tableIn (tgt := 61) C dX11_isRule_1 (by rw [c18]; decide) (by rw [c18]; decide) (by rw [c18]; first | done | rfl) (by decide) ?_
    refine a_iload_n C dX11_isRule_61 rfl 1 rfl ?_
    refine a_iconst (v := (1 : Int32)) C dX11_isRule_62 (by decide) ?_
    obtain ⟨j20, eb22, e⟩ := bA_some e
    have jj21 : AW G lo 0 0 77 [(0, .int x0), (1, .int x1)] [.int j20] h := by
      obtain ⟨z24, e25, e⟩ := bA_some e
      obtain ⟨rfl, rfl⟩ := sp2 e
      exact a_zret C q (bz_some e25) (Nat.le_of_ble_eq_true rfl) (Nat.le_of_ble_eq_true rfl) dX11_isRule_77
    have e := eb22
    refine a_icmp_lt (tgt := 76) C dX11_isRule_63 (by decide) (fun c19 => ?_) (fun c19 => ?_)
    · have e := ip c19 e
      refine a_iconst (v := (0 : Int32)) C dX11_isRule_76 (by decide) ?_
      obtain rfl := sp1 e
      exact a_widen (Nat.le_of_ble_eq_true rfl) (Nat.le_of_ble_eq_true rfl) (a_sub [0, 1] rfl jj21)
    · have e := iN c19 e
      refine a_iload_n C dX11_isRule_66 rfl 1 rfl ?_
      refine a_bipush (v := (60 : Int32)) C dX11_isRule_67 (by decide) ?_
      refine a_icmp_gt (tgt := 76) C dX11_isRule_69 (by decide) (fun c23 => ?_) (fun c23 => ?_)
      · have e := ip c23 e
        refine a_iconst (v := (0 : Int32)) C dX11_isRule_76 (by decide) ?_
        obtain rfl := sp1 e
        exact a_widen (Nat.le_of_ble_eq_true rfl) (Nat.le_of_ble_eq_true rfl) (a_sub [0, 1] rfl jj21)
      · have e := iN c23 e
        refine a_iconst (v := (1 : Int32)) C dX11_isRule_72 (by decide) ?_
        refine a_goto (tgt := 77) C dX11_isRule_73 (by decide) ?_
        obtain rfl := sp1 e
        exact a_widen (Nat.le_of_ble_eq_true rfl) (Nat.le_of_ble_eq_true rfl) (a_sub [0, 1] rfl jj21)
  have e := iN c18 e
  refine a_tableOut (tgt := 78) C dX11_isRule_1 (Classical.byContradiction fun hz => ?_) (by decide) ?_
  · have hz2 : x0.toInt = 0 ∨ x0.toInt = 1 ∨ x0.toInt = 2 := by omega
    rcases hz2 with hz3 | hz3 | hz3
    · exact c2 (Int32.toInt_inj.mp (hz3.trans (by decide)))
    · exact c10 (Int32.toInt_inj.mp (hz3.trans (by decide)))
    · exact c18 (Int32.toInt_inj.mp (hz3.trans (by decide)))
  · refine a_iconst (v := (0 : Int32)) C dX11_isRule_78 (by decide) ?_
    obtain ⟨rfl, rfl⟩ := sp2 e
    exact a_zret C q (by decide) (Nat.le_of_ble_eq_true rfl) (Nat.le_of_ble_eq_true rfl) dX11_isRule_79

set_option maxRecDepth 100000 in
def f_X11_isOutcome (h : Hp) (x0 : Int32) : Option (Int32 × Hp) := bA (if x0 < 0 then (if x0 < (1006 : Int32) then some (0 : Int32) else (if (1011 : Int32) < x0 then some (0 : Int32) else some (1 : Int32))) else (if x0 ≤ (160 : Int32) then some (1 : Int32) else (if x0 < (1006 : Int32) then some (0 : Int32) else (if (1011 : Int32) < x0 then some (0 : Int32) else some (1 : Int32))))) fun j2 => bA (bz j2) fun z10 => some (j2, h)

theorem m_X11_isOutcome : MI yX11_isOutcome cX11_isOutcome 1 (some .boolean) 1 := ⟨co_X11_isOutcome, ini_X11, by decide, by decide +kernel⟩
set_option maxRecDepth 100000 in
set_option maxHeartbeats 4000000 in
theorem k_X11_isOutcome {lo : Nat} {h : Hp} {x0 : Int32} {r : Int32} {h' : Hp} (e : f_X11_isOutcome h x0 = some (r, h')) : ∀ l d, AC l d lo yX11_isOutcome cX11_isOutcome 1 (some .boolean) ({ frames := 0, cells := 0, slots := 0, locals := 0 } : Room) [.int x0] h (some (.int r)) h' := by
  intro l d
  refine AC_of (by decide) (Nat.le_of_ble_eq_true rfl) ?_
  intro G C _ _ q
  unfold f_X11_isOutcome at e
  show AW G lo 0 0 0 [(0, .int x0)] [] h
  refine a_iload_n C dX11_isOutcome_0 rfl 0 rfl ?_
  obtain ⟨j2, eb4, e⟩ := bA_some e
  have jj3 : AW G lo 0 0 30 [(0, .int x0)] [.int j2] h := by
    obtain ⟨z10, e11, e⟩ := bA_some e
    obtain ⟨rfl, rfl⟩ := sp2 e
    exact a_zret C q (bz_some e11) (Nat.le_of_ble_eq_true rfl) (Nat.le_of_ble_eq_true rfl) dX11_isOutcome_30
  have e := eb4
  refine a_if_lt (tgt := 11) C dX11_isOutcome_1 (by decide) (fun c1 => ?_) (fun c1 => ?_)
  · have e := ip c1 e
    refine a_iload_n C dX11_isOutcome_11 rfl 0 rfl ?_
    refine a_sipush (v := (1006 : Int32)) C dX11_isOutcome_12 (by decide) ?_
    refine a_icmp_lt (tgt := 29) C dX11_isOutcome_15 (by decide) (fun c5 => ?_) (fun c5 => ?_)
    · have e := ip c5 e
      refine a_iconst (v := (0 : Int32)) C dX11_isOutcome_29 (by decide) ?_
      obtain rfl := sp1 e
      exact a_widen (Nat.le_of_ble_eq_true rfl) (Nat.le_of_ble_eq_true rfl) (a_sub [0] rfl jj3)
    · have e := iN c5 e
      refine a_iload_n C dX11_isOutcome_18 rfl 0 rfl ?_
      refine a_sipush (v := (1011 : Int32)) C dX11_isOutcome_19 (by decide) ?_
      refine a_icmp_gt (tgt := 29) C dX11_isOutcome_22 (by decide) (fun c6 => ?_) (fun c6 => ?_)
      · have e := ip c6 e
        refine a_iconst (v := (0 : Int32)) C dX11_isOutcome_29 (by decide) ?_
        obtain rfl := sp1 e
        exact a_widen (Nat.le_of_ble_eq_true rfl) (Nat.le_of_ble_eq_true rfl) (a_sub [0] rfl jj3)
      · have e := iN c6 e
        refine a_iconst (v := (1 : Int32)) C dX11_isOutcome_25 (by decide) ?_
        refine a_goto (tgt := 30) C dX11_isOutcome_26 (by decide) ?_
        obtain rfl := sp1 e
        exact a_widen (Nat.le_of_ble_eq_true rfl) (Nat.le_of_ble_eq_true rfl) (a_sub [0] rfl jj3)
  · have e := iN c1 e
    refine a_iload_n C dX11_isOutcome_4 rfl 0 rfl ?_
    refine a_sipush (v := (160 : Int32)) C dX11_isOutcome_5 (by decide) ?_
    refine a_icmp_le (tgt := 25) C dX11_isOutcome_8 (by decide) (fun c7 => ?_) (fun c7 => ?_)
    · have e := ip c7 e
      refine a_iconst (v := (1 : Int32)) C dX11_isOutcome_25 (by decide) ?_
      refine a_goto (tgt := 30) C dX11_isOutcome_26 (by decide) ?_
      obtain rfl := sp1 e
      exact a_widen (Nat.le_of_ble_eq_true rfl) (Nat.le_of_ble_eq_true rfl) (a_sub [0] rfl jj3)
    · have e := iN c7 e
      refine a_iload_n C dX11_isOutcome_11 rfl 0 rfl ?_
      refine a_sipush (v := (1006 : Int32)) C dX11_isOutcome_12 (by decide) ?_
      refine a_icmp_lt (tgt := 29) C dX11_isOutcome_15 (by decide) (fun c8 => ?_) (fun c8 => ?_)
      · have e := ip c8 e
        refine a_iconst (v := (0 : Int32)) C dX11_isOutcome_29 (by decide) ?_
        obtain rfl := sp1 e
        exact a_widen (Nat.le_of_ble_eq_true rfl) (Nat.le_of_ble_eq_true rfl) (a_sub [0] rfl jj3)
      · have e := iN c8 e
        refine a_iload_n C dX11_isOutcome_18 rfl 0 rfl ?_
        refine a_sipush (v := (1011 : Int32)) C dX11_isOutcome_19 (by decide) ?_
        refine a_icmp_gt (tgt := 29) C dX11_isOutcome_22 (by decide) (fun c9 => ?_) (fun c9 => ?_)
        · have e := ip c9 e
          refine a_iconst (v := (0 : Int32)) C dX11_isOutcome_29 (by decide) ?_
          obtain rfl := sp1 e
          exact a_widen (Nat.le_of_ble_eq_true rfl) (Nat.le_of_ble_eq_true rfl) (a_sub [0] rfl jj3)
        · have e := iN c9 e
          refine a_iconst (v := (1 : Int32)) C dX11_isOutcome_25 (by decide) ?_
          refine a_goto (tgt := 30) C dX11_isOutcome_26 (by decide) ?_
          obtain rfl := sp1 e
          exact a_widen (Nat.le_of_ble_eq_true rfl) (Nat.le_of_ble_eq_true rfl) (a_sub [0] rfl jj3)

set_option maxRecDepth 100000 in
def f_X11_rowsThere_L4 {β : Type} (k : Int32 → Int32 → Hp → Option (β)) (x0 : Nat) : Nat → Hp → Int32 → Int32 → Option (β)
  | 0, _, _, _ => none
  | fuel + 1, h, x1, x2 => bA (gN h x0 10 0) fun a2 => bA (qln h a2 2) fun n3 => (if n3 ≤ x2 then k x1 x2 h else bA (gN h x0 10 0) fun a7 => bA (aldn h a7 2 x2) fun a9 => bA (isC h a9 7) fun u16 => b2 (f_X8_isMissing h a9 ) fun r12 h10 => bA (if r12 = 0 then some (x1 + (1 : Int32)) else some x1) fun j20 => f_X11_rowsThere_L4 k x0 fuel h10 j20 (x2 + (1 : Int32)))

set_option maxRecDepth 100000 in
def f_X11_rowsThere (h : Hp) (x0 : Nat) : Option (Int32 × Hp) := f_X11_rowsThere_L4 (fun y24 y25 h23 => some (y24, h23)) x0 2000 h (0 : Int32) (0 : Int32)

theorem m_X11_rowsThere : MI yX11_rowsThere cX11_rowsThere 3 (some .int) 0 := ⟨co_X11_rowsThere, ini_X11, by decide, by decide +kernel⟩
set_option maxRecDepth 100000 in
set_option maxHeartbeats 4000000 in
theorem w_X11_rowsThere_L4 {G : Gm} {lo : Nat} {ce sl : Nat} (C : CX G lo cX11_rowsThere RX11 (some .int) ({ frames := 1, cells := 0, slots := 0, locals := 20 } : Room) 3) {β : Type} {res : β} {k : Int32 → Int32 → Hp → Option (β)} {x0 : Nat} (hk : ∀ (h : Hp) (x1 : Int32) (x2 : Int32), k x1 x2 h = some res → AW G lo ce sl 34 [(0, .ref (lo + x0)), (1, .int x1), (2, .int x2)] [] h) (hce : ce ≤ 0) (hsl : sl ≤ 0) : ∀ (fuel : Nat) (h : Hp) (x1 : Int32) (x2 : Int32), f_X11_rowsThere_L4 k x0 fuel h x1 x2 = some res → AW G lo ce sl 4 [(0, .ref (lo + x0)), (1, .int x1), (2, .int x2)] [] h := by
  intro fuel
  induction fuel with
  | zero =>
    intro h x1 x2 e
    cases (show (none : Option (β)) = some res from e)
  | succ fuel ih =>
    intro h x1 x2 e
    rw [f_X11_rowsThere_L4] at e
    refine a_iload_n C dX11_rowsThere_4 rfl 2 rfl ?_
    refine a_aload_n C dX11_rowsThere_5 rfl 0 rfl ?_
    obtain ⟨a2, e1, e⟩ := bA_some e
    refine a_getN C cb10 0 (by decide) fl_X11_11 rfl dX11_rowsThere_6 e1 ?_
    obtain ⟨n3, e4, e⟩ := bA_some e
    refine a_qln C (by decide) dX11_rowsThere_9 e4 ?_
    refine a_icmp_ge (tgt := 34) C dX11_rowsThere_10 (by decide) (fun c5 => ?_) (fun c5 => ?_)
    · have e := ip c5 e
      exact a_sub [0, 1, 2] rfl (hk _ _ _ e)
    · have e := iN c5 e
      refine a_aload_n C dX11_rowsThere_13 rfl 0 rfl ?_
      obtain ⟨a7, e6, e⟩ := bA_some e
      refine a_getN C cb10 0 (by decide) fl_X11_11 rfl dX11_rowsThere_14 e6 ?_
      refine a_iload_n C dX11_rowsThere_17 rfl 2 rfl ?_
      obtain ⟨a9, e8, e⟩ := bA_some e
      refine a_aldn C (by decide) dX11_rowsThere_18 e8 ?_
      obtain ⟨u16, ec15, e⟩ := bA_some e
      obtain ⟨fs14, eo13⟩ := isC_some ec15
      obtain ⟨r12, h10, e11, e⟩ := b2_some e
      refine a_callV (as := []) (rest := []) C m_X8_isMissing im_X8_isMissing cb7 se_X8_X8_isMissing_X8_isMissing ml_X11_87 rfl (Nat.le_of_ble_eq_true rfl) (Nat.le_of_ble_eq_true rfl) (by exact hce) (by exact hsl) (Nat.le_of_ble_eq_true rfl) dX11_rowsThere_19 eo13 (k_X8_isMissing e11) rfl ?_
      show AW G lo ce sl 22 [(0, .ref (lo + x0)), (1, .int x1), (2, .int x2)] [.int r12] h10
      obtain ⟨j20, eb22, e⟩ := bA_some e
      have jj21 : AW G lo ce sl 28 [(0, .ref (lo + x0)), (1, .int j20), (2, .int x2)] [] h10 := by
        refine a_iinc (v := x2 + (1 : Int32)) (lv2 := [(2, .int (x2 + (1 : Int32))), (0, .ref (lo + x0)), (1, .int j20)]) C dX11_rowsThere_28 2 rfl rfl (by decide) rfl ?_
        refine a_goto (tgt := 4) C dX11_rowsThere_31 (by decide) ?_
        exact a_sub [1, 2, 0] rfl (ih _ _ _ e)
      have e := eb22
      refine a_if_ne (tgt := 28) C dX11_rowsThere_22 (by decide) (fun c19 => ?_) (fun c19 => ?_)
      · have e := iN c19 e
        obtain rfl := sp1 e
        exact a_widen (Nat.le_refl _) (Nat.le_refl _) (a_sub [0, 1, 2] rfl jj21)
      · have e := ip c19 e
        refine a_iinc (v := x1 + (1 : Int32)) (lv2 := [(1, .int (x1 + (1 : Int32))), (0, .ref (lo + x0)), (2, .int x2)]) C dX11_rowsThere_25 1 rfl rfl (by decide) rfl ?_
        obtain rfl := sp1 e
        exact a_widen (Nat.le_refl _) (Nat.le_refl _) (a_sub [1, 0, 2] rfl jj21)
set_option maxRecDepth 100000 in
set_option maxHeartbeats 4000000 in
theorem k_X11_rowsThere {lo : Nat} {h : Hp} {x0 : Nat} {r : Int32} {h' : Hp} (e : f_X11_rowsThere h x0 = some (r, h')) : ∀ l d, AC l d lo yX11_rowsThere cX11_rowsThere 3 (some .int) ({ frames := 1, cells := 0, slots := 0, locals := 20 } : Room) [.ref (lo + x0)] h (some (.int r)) h' := by
  intro l d
  refine AC_of (by decide) (Nat.le_of_ble_eq_true rfl) ?_
  intro G C _ _ q
  unfold f_X11_rowsThere at e
  show AW G lo 0 0 0 [(0, .ref (lo + x0))] [] h
  refine a_iconst (v := (0 : Int32)) C dX11_rowsThere_0 (by decide) ?_
  refine a_istore_n (lv2 := [(1, .int (0 : Int32)), (0, .ref (lo + x0))]) C dX11_rowsThere_1 rfl (by decide) rfl ?_
  refine a_iconst (v := (0 : Int32)) C dX11_rowsThere_2 (by decide) ?_
  refine a_istore_n (lv2 := [(2, .int (0 : Int32)), (1, .int (0 : Int32)), (0, .ref (lo + x0))]) C dX11_rowsThere_3 rfl (by decide) rfl ?_
  refine a_sub [2, 1, 0] rfl (w_X11_rowsThere_L4 C ?_ (Nat.le_of_ble_eq_true rfl) (Nat.le_of_ble_eq_true rfl) 2000 _ _ _ e)
  intro h23 y24 y25 e
  show AW G lo 0 0 34 [(0, .ref (lo + x0)), (1, .int y24), (2, .int y25)] [] h23
  refine a_iload_n C dX11_rowsThere_34 rfl 1 rfl ?_
  obtain ⟨rfl, rfl⟩ := sp2 e
  exact a_iret C q (Nat.le_of_ble_eq_true rfl) (Nat.le_of_ble_eq_true rfl) dX11_rowsThere_35

set_option maxRecDepth 100000 in
def f_X11_keepAct (h : Hp) (x0 : Nat) : Option (Hp) := bA (gN h x0 10 7) fun a2 => bA (gI h x0 10 12) fun g4 => bA (gI h x0 10 13) fun g6 => bA (aldn h a2 3 ((g4 + g6) - (g4 + g6) / (24 : Int32) * (24 : Int32))) fun a8 => bA (gN h x0 10 3) fun a10 => bA (isC h a8 2) fun u17 => bA (f_X3_become h a8 a10) fun h11 => bA (gI h11 x0 10 13) fun g21 => bA (if (24 : Int32) ≤ g21 then bA (gI h11 x0 10 12) fun g27 => bA (pV h11 x0 10 12 (.inl ((g27 + (1 : Int32)) - (g27 + (1 : Int32)) / (24 : Int32) * (24 : Int32)))) fun h29 => some h29 else bA (gI h11 x0 10 13) fun g31 => bA (pV h11 x0 10 13 (.inl (g31 + (1 : Int32)))) fun h33 => some h33) fun h23 => some h23

theorem m_X11_keepAct : MI yX11_keepAct cX11_keepAct 1 none 0 := ⟨co_X11_keepAct, ini_X11, by decide, by decide +kernel⟩
set_option maxRecDepth 100000 in
set_option maxHeartbeats 4000000 in
theorem k_X11_keepAct {lo : Nat} {h : Hp} {x0 : Nat} {h' : Hp} (e : f_X11_keepAct h x0 = some h') : ∀ l d, AC l d lo yX11_keepAct cX11_keepAct 1 none ({ frames := 2, cells := 0, slots := 0, locals := 102 } : Room) [.ref (lo + x0)] h none h' := by
  intro l d
  refine AC_of (by decide) (Nat.le_of_ble_eq_true rfl) ?_
  intro G C _ _ q
  unfold f_X11_keepAct at e
  show AW G lo 0 0 0 [(0, .ref (lo + x0))] [] h
  refine a_aload_n C dX11_keepAct_0 rfl 0 rfl ?_
  obtain ⟨a2, e1, e⟩ := bA_some e
  refine a_getN C cb10 7 (by decide) fl_X11_47 rfl dX11_keepAct_1 e1 ?_
  refine a_aload_n C dX11_keepAct_4 rfl 0 rfl ?_
  obtain ⟨g4, e3, e⟩ := bA_some e
  refine a_getI C cb10 12 (by decide) fl_X11_158 rfl dX11_keepAct_5 e3 ?_
  refine a_aload_n C dX11_keepAct_8 rfl 0 rfl ?_
  obtain ⟨g6, e5, e⟩ := bA_some e
  refine a_getI C cb10 13 (by decide) fl_X11_154 rfl dX11_keepAct_9 e5 ?_
  refine a_iadd C dX11_keepAct_12 ?_
  refine a_bipush (v := (24 : Int32)) C dX11_keepAct_13 (by decide) ?_
  refine a_irem C dX11_keepAct_15 (by decide) ?_
  obtain ⟨a8, e7, e⟩ := bA_some e
  refine a_aldn C (by decide) dX11_keepAct_16 e7 ?_
  refine a_aload_n C dX11_keepAct_17 rfl 0 rfl ?_
  obtain ⟨a10, e9, e⟩ := bA_some e
  refine a_getN C cb10 3 (by decide) fl_X11_33 rfl dX11_keepAct_18 e9 ?_
  obtain ⟨u17, ec16, e⟩ := bA_some e
  obtain ⟨fs15, eo14⟩ := isC_some ec16
  obtain ⟨h11, e12, e⟩ := bA_some e
  refine a_callV (as := [.ref (lo + a10)]) (rest := []) C m_X3_become im_X3_become cb2 se_X3_X3_become_X3_become ml_X11_141 rfl (Nat.le_of_ble_eq_true rfl) (Nat.le_of_ble_eq_true rfl) (Nat.le_of_ble_eq_true rfl) (Nat.le_of_ble_eq_true rfl) (Nat.le_of_ble_eq_true rfl) dX11_keepAct_21 eo14 (k_X3_become e12) rfl ?_
  show AW G lo 0 0 24 [(0, .ref (lo + x0))] [] h11
  refine a_aload_n C dX11_keepAct_24 rfl 0 rfl ?_
  obtain ⟨g21, e20, e⟩ := bA_some e
  refine a_getI C cb10 13 (by decide) fl_X11_154 rfl dX11_keepAct_25 e20 ?_
  refine a_bipush (v := (24 : Int32)) C dX11_keepAct_28 (by decide) ?_
  obtain ⟨h23, eb25, e⟩ := bA_some e
  have jj24 : AW G lo 0 0 59 [(0, .ref (lo + x0))] [] h23 := by
    obtain rfl := sp1 e
    exact a_vret C q (Nat.le_of_ble_eq_true rfl) (Nat.le_of_ble_eq_true rfl) dX11_keepAct_59
  have e := eb25
  refine a_icmp_ge (tgt := 46) C dX11_keepAct_30 (by decide) (fun c22 => ?_) (fun c22 => ?_)
  · have e := ip c22 e
    refine a_aload_n C dX11_keepAct_46 rfl 0 rfl ?_
    refine a_aload_n C dX11_keepAct_47 rfl 0 rfl ?_
    obtain ⟨g27, e26, e⟩ := bA_some e
    refine a_getI C cb10 12 (by decide) fl_X11_158 rfl dX11_keepAct_48 e26 ?_
    refine a_iconst (v := (1 : Int32)) C dX11_keepAct_51 (by decide) ?_
    refine a_iadd C dX11_keepAct_52 ?_
    refine a_bipush (v := (24 : Int32)) C dX11_keepAct_53 (by decide) ?_
    refine a_irem C dX11_keepAct_55 (by decide) ?_
    obtain ⟨h29, e28, e⟩ := bA_some e
    refine a_putI C cb10 12 (by decide) fl_X11_158 rfl (by decide +kernel) dX11_keepAct_56 e28 ?_
    obtain rfl := sp1 e
    exact a_widen (Nat.le_of_ble_eq_true rfl) (Nat.le_of_ble_eq_true rfl) (a_sub [0] rfl jj24)
  · have e := iN c22 e
    refine a_aload_n C dX11_keepAct_33 rfl 0 rfl ?_
    refine a_dup C dX11_keepAct_34 rfl ?_
    obtain ⟨g31, e30, e⟩ := bA_some e
    refine a_getI C cb10 13 (by decide) fl_X11_154 rfl dX11_keepAct_35 e30 ?_
    refine a_iconst (v := (1 : Int32)) C dX11_keepAct_38 (by decide) ?_
    refine a_iadd C dX11_keepAct_39 ?_
    obtain ⟨h33, e32, e⟩ := bA_some e
    refine a_putI C cb10 13 (by decide) fl_X11_154 rfl (by decide +kernel) dX11_keepAct_40 e32 ?_
    refine a_goto (tgt := 59) C dX11_keepAct_43 (by decide) ?_
    obtain rfl := sp1 e
    exact a_widen (Nat.le_of_ble_eq_true rfl) (Nat.le_of_ble_eq_true rfl) (a_sub [0] rfl jj24)

set_option maxRecDepth 100000 in
def f_X11_forgetActs (h : Hp) (x0 : Nat) : Option (Hp) := bA (pV h x0 10 13 (.inl (0 : Int32))) fun h2 => some h2

theorem m_X11_forgetActs : MI yX11_forgetActs cX11_forgetActs 1 none 0 := ⟨co_X11_forgetActs, ini_X11, by decide, by decide +kernel⟩
set_option maxRecDepth 100000 in
set_option maxHeartbeats 4000000 in
theorem k_X11_forgetActs {lo : Nat} {h : Hp} {x0 : Nat} {h' : Hp} (e : f_X11_forgetActs h x0 = some h') : ∀ l d, AC l d lo yX11_forgetActs cX11_forgetActs 1 none ({ frames := 0, cells := 0, slots := 0, locals := 0 } : Room) [.ref (lo + x0)] h none h' := by
  intro l d
  refine AC_of (by decide) (Nat.le_of_ble_eq_true rfl) ?_
  intro G C _ _ q
  unfold f_X11_forgetActs at e
  show AW G lo 0 0 0 [(0, .ref (lo + x0))] [] h
  refine a_aload_n C dX11_forgetActs_0 rfl 0 rfl ?_
  refine a_iconst (v := (0 : Int32)) C dX11_forgetActs_1 (by decide) ?_
  obtain ⟨h2, e1, e⟩ := bA_some e
  refine a_putI C cb10 13 (by decide) fl_X11_154 rfl (by decide +kernel) dX11_forgetActs_2 e1 ?_
  obtain rfl := sp1 e
  exact a_vret C q (Nat.le_of_ble_eq_true rfl) (Nat.le_of_ble_eq_true rfl) dX11_forgetActs_5

set_option maxRecDepth 100000 in
def f_X11_foretell (h : Hp) (x0 : Nat) (x1 : Nat) (x2 : Int32) (x3 : Int32) : Option (Hp) := bA (gN h x0 10 6) fun a2 => bA (gN h x0 10 3) fun a4 => bA (isC h a2 2) fun u11 => bA (f_X3_become h a2 a4) fun h5 => bA (gN h5 x0 10 5) fun a15 => bA (isC h5 a15 9) fun u22 => bA (f_X10_go h5 a15 x1 x2 x3) fun h16 => some h16

theorem m_X11_foretell : MI yX11_foretell cX11_foretell 4 none 3 := ⟨co_X11_foretell, ini_X11, by decide, by decide +kernel⟩
set_option maxRecDepth 100000 in
set_option maxHeartbeats 4000000 in
theorem k_X11_foretell {lo : Nat} {h : Hp} {x0 : Nat} {x1 : Nat} {x2 : Int32} {x3 : Int32} {h' : Hp} (e : f_X11_foretell h x0 x1 x2 x3 = some h') : ∀ l d, AC l d lo yX11_foretell cX11_foretell 4 none ({ frames := 4, cells := 0, slots := 0, locals := 102 } : Room) [.ref (lo + x0), .ref (lo + x1), .int x2, .int x3] h none h' := by
  intro l d
  refine AC_of (by decide) (Nat.le_of_ble_eq_true rfl) ?_
  intro G C _ _ q
  unfold f_X11_foretell at e
  show AW G lo 0 0 0 [(0, .ref (lo + x0)), (1, .ref (lo + x1)), (2, .int x2), (3, .int x3)] [] h
  refine a_aload_n C dX11_foretell_0 rfl 0 rfl ?_
  obtain ⟨a2, e1, e⟩ := bA_some e
  refine a_getN C cb10 6 (by decide) fl_X11_42 rfl dX11_foretell_1 e1 ?_
  refine a_aload_n C dX11_foretell_4 rfl 0 rfl ?_
  obtain ⟨a4, e3, e⟩ := bA_some e
  refine a_getN C cb10 3 (by decide) fl_X11_33 rfl dX11_foretell_5 e3 ?_
  obtain ⟨u11, ec10, e⟩ := bA_some e
  obtain ⟨fs9, eo8⟩ := isC_some ec10
  obtain ⟨h5, e6, e⟩ := bA_some e
  refine a_callV (as := [.ref (lo + a4)]) (rest := []) C m_X3_become im_X3_become cb2 se_X3_X3_become_X3_become ml_X11_141 rfl (Nat.le_of_ble_eq_true rfl) (Nat.le_of_ble_eq_true rfl) (Nat.le_of_ble_eq_true rfl) (Nat.le_of_ble_eq_true rfl) (Nat.le_of_ble_eq_true rfl) dX11_foretell_8 eo8 (k_X3_become e6) rfl ?_
  show AW G lo 0 0 11 [(0, .ref (lo + x0)), (1, .ref (lo + x1)), (2, .int x2), (3, .int x3)] [] h5
  refine a_aload_n C dX11_foretell_11 rfl 0 rfl ?_
  obtain ⟨a15, e14, e⟩ := bA_some e
  refine a_getN C cb10 5 (by decide) fl_X11_39 rfl dX11_foretell_12 e14 ?_
  refine a_aload_n C dX11_foretell_15 rfl 1 rfl ?_
  refine a_iload_n C dX11_foretell_16 rfl 2 rfl ?_
  refine a_iload_n C dX11_foretell_17 rfl 3 rfl ?_
  obtain ⟨u22, ec21, e⟩ := bA_some e
  obtain ⟨fs20, eo19⟩ := isC_some ec21
  obtain ⟨h16, e17, e⟩ := bA_some e
  refine a_callV (as := [.ref (lo + x1), .int x2, .int x3]) (rest := []) C m_X10_go im_X10_go cb9 se_X10_X10_go_X10_go ml_X11_174 rfl (Nat.le_of_ble_eq_true rfl) (Nat.le_of_ble_eq_true rfl) (Nat.le_of_ble_eq_true rfl) (Nat.le_of_ble_eq_true rfl) (Nat.le_of_ble_eq_true rfl) dX11_foretell_18 eo19 (k_X10_go e17) rfl ?_
  show AW G lo 0 0 21 [(0, .ref (lo + x0)), (1, .ref (lo + x1)), (2, .int x2), (3, .int x3)] [] h16
  obtain rfl := sp1 e
  exact a_vret C q (Nat.le_of_ble_eq_true rfl) (Nat.le_of_ble_eq_true rfl) dX11_foretell_21

set_option maxRecDepth 100000 in
def f_X11_findWay_L51 (rc : Hp → Nat → Int32 → Int32 → Int32 → Int32 → Option (Int32 × Hp)) (k : Int32 → Hp → Option (Int32 × Hp)) (x0 : Nat) (x1 : Int32) (x2 : Int32) (x3 : Int32) (x4 : Int32) : Nat → Hp → Int32 → Option (Int32 × Hp)
  | 0, _, _ => none
  | fuel + 1, h, x5 => bA (gN h x0 10 3) fun a30 => bA (gI h a30 2 4) fun g32 => (if g32 ≤ x5 then k x5 h else bA (gN h x0 10 3) fun a35 => bA (isC h a35 2) fun u42 => b2 (f_X3_doorAt h a35 x5) fun r38 h36 => (match r38 with | none => f_X11_findWay_L51 rc k x0 x1 x2 x3 x4 fuel h36 (x5 + (1 : Int32)) | some a45 => bA (gC h36 a45) fun c52 => b2 (v_X2_leadsFrom c52 h36 a45 x1) fun r48 h46 => (if r48 = 0 then f_X11_findWay_L51 rc k x0 x1 x2 x3 x4 fuel h46 (x5 + (1 : Int32)) else bA (gN h46 x0 10 11) fun a56 => bA (ast h46 a56 0 x3 x5) fun h57 => bA (gC h57 a45) fun c65 => b2 (v_X2_beyond c65 h57 a45 x1) fun r61 h59 => bA (isC h59 x0 10) fun u73 => b2 (rc h59 x0 r61 x2 (x3 + (1 : Int32)) x4) fun r69 h67 => (if r69 = 0 then f_X11_findWay_L51 rc k x0 x1 x2 x3 x4 fuel h67 (x5 + (1 : Int32)) else some ((1 : Int32), h67)))))

set_option maxRecDepth 100000 in
def fr_X11_findWay : Nat → Hp → Nat → Int32 → Int32 → Int32 → Int32 → Option (Int32 × Hp)
  | 0, _, _, _, _, _, _ => none
  | dep + 1, h, x0, x1, x2, x3, x4 => (if x4 ≤ x3 then (if x1 = x2 then bA (gN h x0 10 11) fun a4 => bA (isC h x0 10) fun u11 => bA (f_X11_foretell h x0 a4 (0 : Int32) x3) fun h5 => bA (gN h5 x0 10 5) fun a15 => bA (gI h5 a15 9 10) fun g17 => bA (if g17 = 0 then some (1 : Int32) else some (0 : Int32)) fun j19 => bA (bz j19) fun z22 => some (j19, h5) else some ((0 : Int32), h)) else bA (gN h x0 10 11) fun a25 => bA (aln h a25 0) fun n26 => (if x3 < n26 then f_X11_findWay_L51 (fr_X11_findWay dep) (fun y78 h77 => some ((0 : Int32), h77)) x0 x1 x2 x3 x4 2000 h (0 : Int32) else (if x1 = x2 then bA (gN h x0 10 11) fun a81 => bA (isC h x0 10) fun u88 => bA (f_X11_foretell h x0 a81 (0 : Int32) x3) fun h82 => bA (gN h82 x0 10 5) fun a92 => bA (gI h82 a92 9 10) fun g94 => bA (if g94 = 0 then some (1 : Int32) else some (0 : Int32)) fun j96 => bA (bz j96) fun z99 => some (j96, h82) else some ((0 : Int32), h))))

def f_X11_findWay (h : Hp) (x0 : Nat) (x1 : Int32) (x2 : Int32) (x3 : Int32) (x4 : Int32) : Option (Int32 × Hp) := fr_X11_findWay 5 h x0 x1 x2 x3 x4

theorem m_X11_findWay : MI yX11_findWay cX11_findWay 7 (some .boolean) 4 := ⟨co_X11_findWay, ini_X11, by decide, by decide +kernel⟩
set_option maxRecDepth 100000 in
set_option maxHeartbeats 4000000 in
theorem w_X11_findWay_L51 {G : Gm} {lo dep : Nat} {ce sl : Nat} (C : CX G lo cX11_findWay RX11 (some .boolean) ({ frames := dep + 5, cells := 0, slots := 0, locals := dep * 26 + 125 } : Room) 7) {rc : Hp → Nat → Int32 → Int32 → Int32 → Int32 → Option (Int32 × Hp)} {rmy : Room} (hrc : ∀ (h : Hp) (x0 : Nat) (x1 : Int32) (x2 : Int32) (x3 : Int32) (x4 : Int32) (r : Int32) (h2 : Hp), rc h x0 x1 x2 x3 x4 = some (r, h2) → ∀ l d, AC l d lo yX11_findWay cX11_findWay 7 (some .boolean) rmy [.ref (lo + x0), .int x1, .int x2, .int x3, .int x4] h (some (.int r)) h2) (hq : rmy.frames + 1 ≤ (({ frames := dep + 5, cells := 0, slots := 0, locals := dep * 26 + 125 } : Room)).frames ∧ 8 + (7 + 11) + rmy.locals ≤ (({ frames := dep + 5, cells := 0, slots := 0, locals := dep * 26 + 125 } : Room)).locals ∧ rmy.cells = 0 ∧ rmy.slots = 0) {r : Int32} {h' : Hp} {k : Int32 → Hp → Option (Int32 × Hp)} {x0 : Nat} {x1 : Int32} {x2 : Int32} {x3 : Int32} {x4 : Int32} (q : RQ G lo (some (.int r)) h' 0 0) (hk : ∀ (h : Hp) (x5 : Int32), k x5 h = some (r, h') → AW G lo ce sl 123 [(0, .ref (lo + x0)), (1, .int x1), (2, .int x2), (3, .int x3), (4, .int x4), (5, .int x5)] [] h) (hce : ce ≤ 0) (hsl : sl ≤ 0) : ∀ (fuel : Nat) (h : Hp) (x5 : Int32), f_X11_findWay_L51 rc k x0 x1 x2 x3 x4 fuel h x5 = some (r, h') → AW G lo ce sl 51 [(0, .ref (lo + x0)), (1, .int x1), (2, .int x2), (3, .int x3), (4, .int x4), (5, .int x5)] [] h := by
  intro fuel
  induction fuel with
  | zero =>
    intro h x5 e
    cases (show (none : Option (Int32 × Hp)) = some (r, h') from e)
  | succ fuel ih =>
    intro h x5 e
    rw [f_X11_findWay_L51] at e
    refine a_iload C dX11_findWay_51 5 rfl ?_
    refine a_aload_n C dX11_findWay_53 rfl 0 rfl ?_
    obtain ⟨a30, e29, e⟩ := bA_some e
    refine a_getN C cb10 3 (by decide) fl_X11_33 rfl dX11_findWay_54 e29 ?_
    obtain ⟨g32, e31, e⟩ := bA_some e
    refine a_getI C cb2 4 (by decide) fl_X11_151 rfl dX11_findWay_57 e31 ?_
    refine a_icmp_ge (tgt := 123) C dX11_findWay_60 (by decide) (fun c33 => ?_) (fun c33 => ?_)
    · have e := ip c33 e
      exact a_sub [0, 1, 2, 3, 4, 5] rfl (hk _ _ e)
    · have e := iN c33 e
      refine a_aload_n C dX11_findWay_63 rfl 0 rfl ?_
      obtain ⟨a35, e34, e⟩ := bA_some e
      refine a_getN C cb10 3 (by decide) fl_X11_33 rfl dX11_findWay_64 e34 ?_
      refine a_iload C dX11_findWay_67 5 rfl ?_
      obtain ⟨u42, ec41, e⟩ := bA_some e
      obtain ⟨fs40, eo39⟩ := isC_some ec41
      obtain ⟨r38, h36, e37, e⟩ := b2_some e
      refine a_callV (as := [.int x5]) (rest := []) C m_X3_doorAt im_X3_doorAt cb2 se_X3_X3_doorAt_X3_doorAt ml_X11_213 rfl (Nat.le_of_ble_eq_true rfl) (Nat.le_of_ble_eq_true rfl) (by exact hce) (by exact hsl) (Nat.le_of_ble_eq_true rfl) dX11_findWay_69 eo39 (k_X3_doorAt e37) rfl ?_
      show AW G lo ce sl 72 [(0, .ref (lo + x0)), (1, .int x1), (2, .int x2), (3, .int x3), (4, .int x4), (5, .int x5)] [va_rf (rl lo r38)] h36
      rcases r38 with _ | a45
      · show AW G lo ce sl 72 [(0, .ref (lo + x0)), (1, .int x1), (2, .int x2), (3, .int x3), (4, .int x4), (5, .int x5)] [.null] h36
        refine a_astoreN (lv2 := [(6, .null), (0, .ref (lo + x0)), (1, .int x1), (2, .int x2), (3, .int x3), (4, .int x4), (5, .int x5)]) C dX11_findWay_72 (by decide) rfl ?_
        refine a_aloadN C dX11_findWay_74 0 rfl ?_
        refine a_ifnullN (tgt := 117) C dX11_findWay_76 (by decide) ?_
        refine a_iinc (v := x5 + (1 : Int32)) (lv2 := [(5, .int (x5 + (1 : Int32))), (6, .null), (0, .ref (lo + x0)), (1, .int x1), (2, .int x2), (3, .int x3), (4, .int x4)]) C dX11_findWay_117 6 rfl rfl (by decide) rfl ?_
        refine a_goto (tgt := 51) C dX11_findWay_120 (by decide) ?_
        exact a_sub [2, 3, 4, 5, 6, 0] rfl (ih _ _ e)
      · show AW G lo ce sl 72 [(0, .ref (lo + x0)), (1, .int x1), (2, .int x2), (3, .int x3), (4, .int x4), (5, .int x5)] [.ref (lo + a45)] h36
        refine a_astore (lv2 := [(6, .ref (lo + a45)), (0, .ref (lo + x0)), (1, .int x1), (2, .int x2), (3, .int x3), (4, .int x4), (5, .int x5)]) C dX11_findWay_72 (by decide) rfl ?_
        refine a_aload C dX11_findWay_74 0 rfl ?_
        refine a_ifnull C dX11_findWay_76 ?_
        refine a_aload C dX11_findWay_79 0 rfl ?_
        refine a_iload_n C dX11_findWay_81 rfl 2 rfl ?_
        obtain ⟨c52, ec51, e⟩ := bA_some e
        obtain ⟨fs50, eo49, ed53⟩ := gC_some ec51
        obtain ⟨r48, h46, e47, e⟩ := b2_some e
        refine a_callD (as := [.int x1]) (rest := []) C (vd_X2_leadsFrom e47) sam_X2_X2_leadsFrom du_X2_leadsFrom (by decide) ml_X11_350 (Nat.le_of_ble_eq_true rfl) (Nat.le_of_ble_eq_true rfl) (by exact hce) (by exact hsl) (Nat.le_of_ble_eq_true rfl) dX11_findWay_82 eo49 rfl ?_
        show AW G lo ce sl 85 [(6, .ref (lo + a45)), (0, .ref (lo + x0)), (1, .int x1), (2, .int x2), (3, .int x3), (4, .int x4), (5, .int x5)] [.int r48] h46
        refine a_if_eq (tgt := 117) C dX11_findWay_85 (by decide) (fun c54 => ?_) (fun c54 => ?_)
        · have e := ip c54 e
          refine a_iinc (v := x5 + (1 : Int32)) (lv2 := [(5, .int (x5 + (1 : Int32))), (6, .ref (lo + a45)), (0, .ref (lo + x0)), (1, .int x1), (2, .int x2), (3, .int x3), (4, .int x4)]) C dX11_findWay_117 6 rfl rfl (by decide) rfl ?_
          refine a_goto (tgt := 51) C dX11_findWay_120 (by decide) ?_
          exact a_sub [2, 3, 4, 5, 6, 0] rfl (ih _ _ e)
        · have e := iN c54 e
          refine a_aload_n C dX11_findWay_88 rfl 1 rfl ?_
          obtain ⟨a56, e55, e⟩ := bA_some e
          refine a_getN C cb10 11 (by decide) fl_X11_65 rfl dX11_findWay_89 e55 ?_
          refine a_iload_n C dX11_findWay_92 rfl 4 rfl ?_
          refine a_iload C dX11_findWay_93 6 rfl ?_
          obtain ⟨h57, e58, e⟩ := bA_some e
          refine a_iast C dX11_findWay_95 e58 ?_
          refine a_aload_n C dX11_findWay_96 rfl 1 rfl ?_
          refine a_aload C dX11_findWay_97 0 rfl ?_
          refine a_iload_n C dX11_findWay_99 rfl 2 rfl ?_
          obtain ⟨c65, ec64, e⟩ := bA_some e
          obtain ⟨fs63, eo62, ed66⟩ := gC_some ec64
          obtain ⟨r61, h59, e60, e⟩ := b2_some e
          refine a_callD (as := [.int x1]) (rest := [.ref (lo + x0)]) C (vd_X2_beyond e60) sam_X2_X2_beyond du_X2_beyond (by decide) ml_X11_353 (Nat.le_of_ble_eq_true rfl) (Nat.le_of_ble_eq_true rfl) (by exact hce) (by exact hsl) (Nat.le_of_ble_eq_true rfl) dX11_findWay_100 eo62 rfl ?_
          show AW G lo ce sl 103 [(6, .ref (lo + a45)), (0, .ref (lo + x0)), (1, .int x1), (2, .int x2), (3, .int x3), (4, .int x4), (5, .int x5)] [.int r61, .ref (lo + x0)] h59
          refine a_iload_n C dX11_findWay_103 rfl 3 rfl ?_
          refine a_iload_n C dX11_findWay_104 rfl 4 rfl ?_
          refine a_iconst (v := (1 : Int32)) C dX11_findWay_105 (by decide) ?_
          refine a_iadd C dX11_findWay_106 ?_
          refine a_iload C dX11_findWay_107 5 rfl ?_
          obtain ⟨u73, ec72, e⟩ := bA_some e
          obtain ⟨fs71, eo70⟩ := isC_some ec72
          obtain ⟨r69, h67, e68, e⟩ := b2_some e
          refine a_callV (as := [.int r61, .int x2, .int (x3 + (1 : Int32)), .int x4]) (rest := []) C m_X11_findWay im_X11_findWay cb10 se_X11_X11_findWay_X11_findWay ml_X11_255 rfl hq.1 hq.2.1 (by rw [hq.2.2.1]; exact (by exact hce)) (by rw [hq.2.2.2]; exact (by exact hsl)) (Nat.le_of_ble_eq_true rfl) dX11_findWay_109 eo70 (hrc _ _ _ _ _ _ _ _ e68) rfl ?_
          rw [hq.2.2.1, hq.2.2.2]
          show AW G lo ce sl 112 [(6, .ref (lo + a45)), (0, .ref (lo + x0)), (1, .int x1), (2, .int x2), (3, .int x3), (4, .int x4), (5, .int x5)] [.int r69] h67
          refine a_if_eq (tgt := 117) C dX11_findWay_112 (by decide) (fun c76 => ?_) (fun c76 => ?_)
          · have e := ip c76 e
            refine a_iinc (v := x5 + (1 : Int32)) (lv2 := [(5, .int (x5 + (1 : Int32))), (6, .ref (lo + a45)), (0, .ref (lo + x0)), (1, .int x1), (2, .int x2), (3, .int x3), (4, .int x4)]) C dX11_findWay_117 6 rfl rfl (by decide) rfl ?_
            refine a_goto (tgt := 51) C dX11_findWay_120 (by decide) ?_
            exact a_sub [2, 3, 4, 5, 6, 0] rfl (ih _ _ e)
          · have e := iN c76 e
            refine a_iconst (v := (1 : Int32)) C dX11_findWay_115 (by decide) ?_
            obtain ⟨rfl, rfl⟩ := sp2 e
            exact a_zret C q (by decide) (by exact hce) (by exact hsl) dX11_findWay_116
set_option maxRecDepth 100000 in
set_option maxHeartbeats 4000000 in
theorem kr_X11_findWay : ∀ (dep : Nat) {lo : Nat} (h : Hp) (x0 : Nat) (x1 : Int32) (x2 : Int32) (x3 : Int32) (x4 : Int32) (r : Int32) (h' : Hp), fr_X11_findWay dep h x0 x1 x2 x3 x4 = some (r, h') → ∀ l d, AC l d lo yX11_findWay cX11_findWay 7 (some .boolean) ({ frames := dep + 5, cells := 0, slots := 0, locals := dep * 26 + 125 } : Room) [.ref (lo + x0), .int x1, .int x2, .int x3, .int x4] h (some (.int r)) h' := by
  intro dep
  induction dep with
  | zero =>
    intro lo h x0 x1 x2 x3 x4 r h' e
    cases (show (none : Option (Int32 × Hp)) = some (r, h') from e)
  | succ dep ih =>
    intro lo h x0 x1 x2 x3 x4 r h' e l d
    have hrc := fun (h : Hp) (x0 : Nat) (x1 : Int32) (x2 : Int32) (x3 : Int32) (x4 : Int32) (r : Int32) (h2 : Hp) (e : fr_X11_findWay dep h x0 x1 x2 x3 x4 = some (r, h2)) => ih (lo := lo) h x0 x1 x2 x3 x4 r h2 e
    have hq : ({ frames := dep + 5, cells := 0, slots := 0, locals := dep * 26 + 125 } : Room).frames + 1 ≤ ({ frames := (dep + 1) + 5, cells := 0, slots := 0, locals := (dep + 1) * 26 + 125 } : Room).frames ∧ 8 + (7 + 11) + ({ frames := dep + 5, cells := 0, slots := 0, locals := dep * 26 + 125 } : Room).locals ≤ ({ frames := (dep + 1) + 5, cells := 0, slots := 0, locals := (dep + 1) * 26 + 125 } : Room).locals ∧ ({ frames := dep + 5, cells := 0, slots := 0, locals := dep * 26 + 125 } : Room).cells = 0 ∧ ({ frames := dep + 5, cells := 0, slots := 0, locals := dep * 26 + 125 } : Room).slots = 0 := ⟨by show dep + 5 + 1 ≤ dep + 1 + 5; omega, by show 8 + (7 + 11) + (dep * 26 + 125) ≤ (dep + 1) * 26 + 125; omega, rfl, rfl⟩
    refine AC_of (by decide) (Nat.le_of_ble_eq_true rfl) ?_
    intro G C _ _ q
    rw [fr_X11_findWay] at e
    show AW G lo 0 0 0 [(0, .ref (lo + x0)), (1, .int x1), (2, .int x2), (3, .int x3), (4, .int x4)] [] h
    refine a_iload_n C dX11_findWay_0 rfl 3 rfl ?_
    refine a_iload C dX11_findWay_1 4 rfl ?_
    refine a_icmp_ge (tgt := 15) C dX11_findWay_3 (by decide) (fun c1 => ?_) (fun c1 => ?_)
    · have e := ip c1 e
      refine a_iload_n C dX11_findWay_15 rfl 1 rfl ?_
      refine a_iload_n C dX11_findWay_16 rfl 2 rfl ?_
      refine a_icmp_eq (tgt := 22) C dX11_findWay_17 (by decide) (fun c2 => ?_) (fun c2 => ?_)
      · have e := ip c2 e
        refine a_aload_n C dX11_findWay_22 rfl 0 rfl ?_
        refine a_aload_n C dX11_findWay_23 rfl 0 rfl ?_
        obtain ⟨a4, e3, e⟩ := bA_some e
        refine a_getN C cb10 11 (by decide) fl_X11_65 rfl dX11_findWay_24 e3 ?_
        refine a_iconst (v := (0 : Int32)) C dX11_findWay_27 (by decide) ?_
        refine a_iload_n C dX11_findWay_28 rfl 3 rfl ?_
        obtain ⟨u11, ec10, e⟩ := bA_some e
        obtain ⟨fs9, eo8⟩ := isC_some ec10
        obtain ⟨h5, e6, e⟩ := bA_some e
        refine a_callV (as := [.ref (lo + a4), .int (0 : Int32), .int x3]) (rest := []) C m_X11_foretell im_X11_foretell cb10 se_X11_X11_foretell_X11_foretell ml_X11_237 rfl (Nat.le_of_ble_eq_true rfl) (Nat.le_of_ble_eq_true rfl) (Nat.le_of_ble_eq_true rfl) (Nat.le_of_ble_eq_true rfl) (Nat.le_of_ble_eq_true rfl) dX11_findWay_29 eo8 (k_X11_foretell e6) rfl ?_
        show AW G lo 0 0 32 [(0, .ref (lo + x0)), (1, .int x1), (2, .int x2), (3, .int x3), (4, .int x4)] [] h5
        refine a_aload_n C dX11_findWay_32 rfl 0 rfl ?_
        obtain ⟨a15, e14, e⟩ := bA_some e
        refine a_getN C cb10 5 (by decide) fl_X11_39 rfl dX11_findWay_33 e14 ?_
        obtain ⟨g17, e16, e⟩ := bA_some e
        refine a_getI C cb9 10 (by decide) fl_X11_178 rfl dX11_findWay_36 e16 ?_
        obtain ⟨j19, eb21, e⟩ := bA_some e
        have jj20 : AW G lo 0 0 47 [(0, .ref (lo + x0)), (1, .int x1), (2, .int x2), (3, .int x3), (4, .int x4)] [.int j19] h5 := by
          obtain ⟨z22, e23, e⟩ := bA_some e
          obtain ⟨rfl, rfl⟩ := sp2 e
          exact a_zret C q (bz_some e23) (Nat.le_of_ble_eq_true rfl) (Nat.le_of_ble_eq_true rfl) dX11_findWay_47
        have e := eb21
        refine a_if_ne (tgt := 46) C dX11_findWay_39 (by decide) (fun c18 => ?_) (fun c18 => ?_)
        · have e := iN c18 e
          refine a_iconst (v := (0 : Int32)) C dX11_findWay_46 (by decide) ?_
          obtain rfl := sp1 e
          exact a_widen (Nat.le_of_ble_eq_true rfl) (Nat.le_of_ble_eq_true rfl) (a_sub [0, 1, 2, 3, 4] rfl jj20)
        · have e := ip c18 e
          refine a_iconst (v := (1 : Int32)) C dX11_findWay_42 (by decide) ?_
          refine a_goto (tgt := 47) C dX11_findWay_43 (by decide) ?_
          obtain rfl := sp1 e
          exact a_widen (Nat.le_of_ble_eq_true rfl) (Nat.le_of_ble_eq_true rfl) (a_sub [0, 1, 2, 3, 4] rfl jj20)
      · have e := iN c2 e
        refine a_iconst (v := (0 : Int32)) C dX11_findWay_20 (by decide) ?_
        obtain ⟨rfl, rfl⟩ := sp2 e
        exact a_zret C q (by decide) (Nat.le_of_ble_eq_true rfl) (Nat.le_of_ble_eq_true rfl) dX11_findWay_21
    · have e := iN c1 e
      refine a_iload_n C dX11_findWay_6 rfl 3 rfl ?_
      refine a_aload_n C dX11_findWay_7 rfl 0 rfl ?_
      obtain ⟨a25, e24, e⟩ := bA_some e
      refine a_getN C cb10 11 (by decide) fl_X11_65 rfl dX11_findWay_8 e24 ?_
      obtain ⟨n26, e27, e⟩ := bA_some e
      refine a_aln C dX11_findWay_11 e27 ?_
      refine a_icmp_lt (tgt := 48) C dX11_findWay_12 (by decide) (fun c28 => ?_) (fun c28 => ?_)
      · have e := ip c28 e
        refine a_iconst (v := (0 : Int32)) C dX11_findWay_48 (by decide) ?_
        refine a_istore (lv2 := [(5, .int (0 : Int32)), (0, .ref (lo + x0)), (1, .int x1), (2, .int x2), (3, .int x3), (4, .int x4)]) C dX11_findWay_49 (by decide) rfl ?_
        refine a_sub [1, 2, 3, 4, 5, 0] rfl (w_X11_findWay_L51 C hrc hq q ?_ (Nat.le_of_ble_eq_true rfl) (Nat.le_of_ble_eq_true rfl) 2000 _ _ e)
        intro h77 y78 e
        show AW G lo 0 0 123 [(0, .ref (lo + x0)), (1, .int x1), (2, .int x2), (3, .int x3), (4, .int x4), (5, .int y78)] [] h77
        refine a_iconst (v := (0 : Int32)) C dX11_findWay_123 (by decide) ?_
        obtain ⟨rfl, rfl⟩ := sp2 e
        exact a_zret C q (by decide) (Nat.le_of_ble_eq_true rfl) (Nat.le_of_ble_eq_true rfl) dX11_findWay_124
      · have e := iN c28 e
        refine a_iload_n C dX11_findWay_15 rfl 1 rfl ?_
        refine a_iload_n C dX11_findWay_16 rfl 2 rfl ?_
        refine a_icmp_eq (tgt := 22) C dX11_findWay_17 (by decide) (fun c79 => ?_) (fun c79 => ?_)
        · have e := ip c79 e
          refine a_aload_n C dX11_findWay_22 rfl 0 rfl ?_
          refine a_aload_n C dX11_findWay_23 rfl 0 rfl ?_
          obtain ⟨a81, e80, e⟩ := bA_some e
          refine a_getN C cb10 11 (by decide) fl_X11_65 rfl dX11_findWay_24 e80 ?_
          refine a_iconst (v := (0 : Int32)) C dX11_findWay_27 (by decide) ?_
          refine a_iload_n C dX11_findWay_28 rfl 3 rfl ?_
          obtain ⟨u88, ec87, e⟩ := bA_some e
          obtain ⟨fs86, eo85⟩ := isC_some ec87
          obtain ⟨h82, e83, e⟩ := bA_some e
          refine a_callV (as := [.ref (lo + a81), .int (0 : Int32), .int x3]) (rest := []) C m_X11_foretell im_X11_foretell cb10 se_X11_X11_foretell_X11_foretell ml_X11_237 rfl (Nat.le_of_ble_eq_true rfl) (Nat.le_of_ble_eq_true rfl) (Nat.le_of_ble_eq_true rfl) (Nat.le_of_ble_eq_true rfl) (Nat.le_of_ble_eq_true rfl) dX11_findWay_29 eo85 (k_X11_foretell e83) rfl ?_
          show AW G lo 0 0 32 [(0, .ref (lo + x0)), (1, .int x1), (2, .int x2), (3, .int x3), (4, .int x4)] [] h82
          refine a_aload_n C dX11_findWay_32 rfl 0 rfl ?_
          obtain ⟨a92, e91, e⟩ := bA_some e
          refine a_getN C cb10 5 (by decide) fl_X11_39 rfl dX11_findWay_33 e91 ?_
          obtain ⟨g94, e93, e⟩ := bA_some e
          refine a_getI C cb9 10 (by decide) fl_X11_178 rfl dX11_findWay_36 e93 ?_
          obtain ⟨j96, eb98, e⟩ := bA_some e
          have jj97 : AW G lo 0 0 47 [(0, .ref (lo + x0)), (1, .int x1), (2, .int x2), (3, .int x3), (4, .int x4)] [.int j96] h82 := by
            obtain ⟨z99, e100, e⟩ := bA_some e
            obtain ⟨rfl, rfl⟩ := sp2 e
            exact a_zret C q (bz_some e100) (Nat.le_of_ble_eq_true rfl) (Nat.le_of_ble_eq_true rfl) dX11_findWay_47
          have e := eb98
          refine a_if_ne (tgt := 46) C dX11_findWay_39 (by decide) (fun c95 => ?_) (fun c95 => ?_)
          · have e := iN c95 e
            refine a_iconst (v := (0 : Int32)) C dX11_findWay_46 (by decide) ?_
            obtain rfl := sp1 e
            exact a_widen (Nat.le_of_ble_eq_true rfl) (Nat.le_of_ble_eq_true rfl) (a_sub [0, 1, 2, 3, 4] rfl jj97)
          · have e := ip c95 e
            refine a_iconst (v := (1 : Int32)) C dX11_findWay_42 (by decide) ?_
            refine a_goto (tgt := 47) C dX11_findWay_43 (by decide) ?_
            obtain rfl := sp1 e
            exact a_widen (Nat.le_of_ble_eq_true rfl) (Nat.le_of_ble_eq_true rfl) (a_sub [0, 1, 2, 3, 4] rfl jj97)
        · have e := iN c79 e
          refine a_iconst (v := (0 : Int32)) C dX11_findWay_20 (by decide) ?_
          obtain ⟨rfl, rfl⟩ := sp2 e
          exact a_zret C q (by decide) (Nat.le_of_ble_eq_true rfl) (Nat.le_of_ble_eq_true rfl) dX11_findWay_21

theorem k_X11_findWay {lo : Nat} {h : Hp} {x0 : Nat} {x1 : Int32} {x2 : Int32} {x3 : Int32} {x4 : Int32} {r : Int32} {h' : Hp} (e : f_X11_findWay h x0 x1 x2 x3 x4 = some (r, h')) : ∀ l d, AC l d lo yX11_findWay cX11_findWay 7 (some .boolean) ({ frames := 10, cells := 0, slots := 0, locals := 255 } : Room) [.ref (lo + x0), .int x1, .int x2, .int x3, .int x4] h (some (.int r)) h' := kr_X11_findWay 5 h x0 x1 x2 x3 x4 r h' e

set_option maxRecDepth 100000 in
def f_X11_playTurns_L57 {β : Type} (rc : Hp → Nat → Int32 → Int32 → Option (Int32 × Hp)) (k : Int32 → Int32 → Hp → Option (β)) (x0 : Nat) (x1 : Int32) (x2 : Int32) (x3 : Nat) (x4 : Int32) : Nat → Hp → Int32 → Int32 → Option (β)
  | 0, _, _, _ => none
  | fuel + 1, h, x5, x6 => bA (gI h x3 2 4) fun g36 => (if g36 ≤ x6 then k x5 x6 h else bA (isC h x3 2) fun u44 => b2 (f_X3_doorAt h x3 x6) fun r40 h38 => b2 (match r40 with | none => some (x5, h38) | some a47 => bA (gC h38 a47) fun c58 => b2 (v_X2_leadsFrom c58 h38 a47 (0 : Int32)) fun r54 h52 => (if r54 = 0 then some (x5, h52) else bA (gN h52 x0 10 6) fun a62 => bA (isC h52 a62 2) fun u69 => bA (f_X3_become h52 a62 x3) fun h63 => bA (gN h63 x0 10 11) fun a73 => bA (ast h63 a73 0 (0 : Int32) x6) fun h74 => bA (gN h74 x0 10 5) fun a77 => bA (gN h74 x0 10 11) fun a79 => bA (isC h74 a77 9) fun u86 => bA (f_X10_go h74 a77 a79 (0 : Int32) (1 : Int32)) fun h80 => bA (gN h80 x0 10 5) fun a90 => bA (gI h80 a90 9 10) fun g92 => bA (if g92 = 0 then bA (gN h80 x0 10 5) fun a98 => bA (gI h80 a98 9 9) fun g100 => some g100 else some (0 : Int32)) fun j94 => bA (if x4 = 0 then some (-j94) else some j94) fun j102 => bA (isC h80 x0 10) fun u111 => b2 (rc h80 x0 (x1 + (1 : Int32)) x2) fun r107 h105 => bA (if x4 = 0 then some (if (j102 + r107) < x5 then (j102 + r107) else x5) else some (if x5 < (j102 + r107) then (j102 + r107) else x5)) fun j115 => some (j115, h105))) fun j48 h49 => f_X11_playTurns_L57 rc k x0 x1 x2 x3 x4 fuel h49 j48 (x6 + (1 : Int32)))

set_option maxRecDepth 100000 in
def fr_X11_playTurns : Nat → Hp → Nat → Int32 → Int32 → Option (Int32 × Hp)
  | 0, _, _, _, _ => none
  | dep + 1, h, x0, x1, x2 => (if x2 ≤ x1 then some ((0 : Int32), h) else bA (gN h x0 10 10) fun a3 => bA (qln h a3 3) fun n4 => (if x1 < n4 then bA (gN h x0 10 10) fun a8 => bA (aldn h a8 3 x1) fun a10 => bA (gN h x0 10 6) fun a12 => bA (isC h a10 2) fun u19 => bA (f_X3_become h a10 a12) fun h13 => bA (if (x1 - x1 / (2 : Int32) * (2 : Int32)) = 0 then some (1 : Int32) else some (0 : Int32)) fun j23 => bA (isC h13 x0 10) fun u32 => b2 ((fr_X11_playTurns dep) h13 x0 (x1 + (1 : Int32)) x2) fun r28 h26 => f_X11_playTurns_L57 (fr_X11_playTurns dep) (fun y119 y120 h118 => some (y119, h118)) x0 x1 x2 a10 j23 2000 h26 r28 (0 : Int32) else some ((0 : Int32), h)))

def f_X11_playTurns (h : Hp) (x0 : Nat) (x1 : Int32) (x2 : Int32) : Option (Int32 × Hp) := fr_X11_playTurns 5 h x0 x1 x2

theorem m_X11_playTurns : MI yX11_playTurns cX11_playTurns 10 (some .int) 2 := ⟨co_X11_playTurns, ini_X11, by decide, by decide +kernel⟩
set_option maxRecDepth 100000 in
set_option maxHeartbeats 4000000 in
theorem w_X11_playTurns_L57 {G : Gm} {lo dep : Nat} {ce sl : Nat} (C : CX G lo cX11_playTurns RX11 (some .int) ({ frames := dep + 4, cells := 0, slots := 0, locals := dep * 29 + 102 } : Room) 10) {rc : Hp → Nat → Int32 → Int32 → Option (Int32 × Hp)} {rmy : Room} (hrc : ∀ (h : Hp) (x0 : Nat) (x1 : Int32) (x2 : Int32) (r : Int32) (h2 : Hp), rc h x0 x1 x2 = some (r, h2) → ∀ l d, AC l d lo yX11_playTurns cX11_playTurns 10 (some .int) rmy [.ref (lo + x0), .int x1, .int x2] h (some (.int r)) h2) (hq : rmy.frames + 1 ≤ (({ frames := dep + 4, cells := 0, slots := 0, locals := dep * 29 + 102 } : Room)).frames ∧ 8 + (10 + 11) + rmy.locals ≤ (({ frames := dep + 4, cells := 0, slots := 0, locals := dep * 29 + 102 } : Room)).locals ∧ rmy.cells = 0 ∧ rmy.slots = 0) {β : Type} {res : β} {k : Int32 → Int32 → Hp → Option (β)} {x0 : Nat} {x1 : Int32} {x2 : Int32} {x3 : Nat} {x4 : Int32} (hk : ∀ (h : Hp) (x5 : Int32) (x6 : Int32), k x5 x6 h = some res → AW G lo ce sl 194 [(0, .ref (lo + x0)), (1, .int x1), (2, .int x2), (3, .ref (lo + x3)), (4, .int x4), (5, .int x5), (6, .int x6)] [] h) (hce : ce ≤ 0) (hsl : sl ≤ 0) : ∀ (fuel : Nat) (h : Hp) (x5 : Int32) (x6 : Int32), f_X11_playTurns_L57 rc k x0 x1 x2 x3 x4 fuel h x5 x6 = some res → AW G lo ce sl 57 [(0, .ref (lo + x0)), (1, .int x1), (2, .int x2), (3, .ref (lo + x3)), (4, .int x4), (5, .int x5), (6, .int x6)] [] h := by
  intro fuel
  induction fuel with
  | zero =>
    intro h x5 x6 e
    cases (show (none : Option (β)) = some res from e)
  | succ fuel ih =>
    intro h x5 x6 e
    rw [f_X11_playTurns_L57] at e
    refine a_iload C dX11_playTurns_57 6 rfl ?_
    refine a_aload_n C dX11_playTurns_59 rfl 3 rfl ?_
    obtain ⟨g36, e35, e⟩ := bA_some e
    refine a_getI C cb2 4 (by decide) fl_X11_151 rfl dX11_playTurns_60 e35 ?_
    refine a_icmp_ge (tgt := 194) C dX11_playTurns_63 (by decide) (fun c37 => ?_) (fun c37 => ?_)
    · have e := ip c37 e
      exact a_sub [0, 1, 2, 3, 4, 5, 6] rfl (hk _ _ _ e)
    · have e := iN c37 e
      refine a_aload_n C dX11_playTurns_66 rfl 3 rfl ?_
      refine a_iload C dX11_playTurns_67 6 rfl ?_
      obtain ⟨u44, ec43, e⟩ := bA_some e
      obtain ⟨fs42, eo41⟩ := isC_some ec43
      obtain ⟨r40, h38, e39, e⟩ := b2_some e
      refine a_callV (as := [.int x6]) (rest := []) C m_X3_doorAt im_X3_doorAt cb2 se_X3_X3_doorAt_X3_doorAt ml_X11_213 rfl (Nat.le_of_ble_eq_true rfl) (Nat.le_of_ble_eq_true rfl) (by exact hce) (by exact hsl) (Nat.le_of_ble_eq_true rfl) dX11_playTurns_69 eo41 (k_X3_doorAt e39) rfl ?_
      show AW G lo ce sl 72 [(0, .ref (lo + x0)), (1, .int x1), (2, .int x2), (3, .ref (lo + x3)), (4, .int x4), (5, .int x5), (6, .int x6)] [va_rf (rl lo r40)] h38
      obtain ⟨j48, h49, eb51, e⟩ := b2_some e
      have jj50 : AW G lo ce sl 188 [(0, .ref (lo + x0)), (1, .int x1), (2, .int x2), (3, .ref (lo + x3)), (4, .int x4), (5, .int j48), (6, .int x6)] [] h49 := by
        refine a_iinc (v := x6 + (1 : Int32)) (lv2 := [(6, .int (x6 + (1 : Int32))), (0, .ref (lo + x0)), (1, .int x1), (2, .int x2), (3, .ref (lo + x3)), (4, .int x4), (5, .int j48)]) C dX11_playTurns_188 6 rfl rfl (by decide) rfl ?_
        refine a_goto (tgt := 57) C dX11_playTurns_191 (by decide) ?_
        exact a_sub [1, 2, 3, 4, 5, 6, 0] rfl (ih _ _ _ e)
      have e := eb51
      rcases r40 with _ | a47
      · show AW G lo ce sl 72 [(0, .ref (lo + x0)), (1, .int x1), (2, .int x2), (3, .ref (lo + x3)), (4, .int x4), (5, .int x5), (6, .int x6)] [.null] h38
        refine a_astoreN (lv2 := [(7, .null), (0, .ref (lo + x0)), (1, .int x1), (2, .int x2), (3, .ref (lo + x3)), (4, .int x4), (5, .int x5), (6, .int x6)]) C dX11_playTurns_72 (by decide) rfl ?_
        refine a_aloadN C dX11_playTurns_74 0 rfl ?_
        refine a_ifnullN (tgt := 188) C dX11_playTurns_76 (by decide) ?_
        obtain ⟨rfl, rfl⟩ := sp2 e
        exact a_widen (Nat.le_refl _) (Nat.le_refl _) (a_sub [1, 2, 3, 4, 5, 6, 7] rfl jj50)
      · show AW G lo ce sl 72 [(0, .ref (lo + x0)), (1, .int x1), (2, .int x2), (3, .ref (lo + x3)), (4, .int x4), (5, .int x5), (6, .int x6)] [.ref (lo + a47)] h38
        refine a_astore (lv2 := [(7, .ref (lo + a47)), (0, .ref (lo + x0)), (1, .int x1), (2, .int x2), (3, .ref (lo + x3)), (4, .int x4), (5, .int x5), (6, .int x6)]) C dX11_playTurns_72 (by decide) rfl ?_
        refine a_aload C dX11_playTurns_74 0 rfl ?_
        refine a_ifnull C dX11_playTurns_76 ?_
        refine a_aload C dX11_playTurns_79 0 rfl ?_
        refine a_iconst (v := (0 : Int32)) C dX11_playTurns_81 (by decide) ?_
        obtain ⟨c58, ec57, e⟩ := bA_some e
        obtain ⟨fs56, eo55, ed59⟩ := gC_some ec57
        obtain ⟨r54, h52, e53, e⟩ := b2_some e
        refine a_callD (as := [.int (0 : Int32)]) (rest := []) C (vd_X2_leadsFrom e53) sam_X2_X2_leadsFrom du_X2_leadsFrom (by decide) ml_X11_350 (Nat.le_of_ble_eq_true rfl) (Nat.le_of_ble_eq_true rfl) (by exact hce) (by exact hsl) (Nat.le_of_ble_eq_true rfl) dX11_playTurns_82 eo55 rfl ?_
        show AW G lo ce sl 85 [(7, .ref (lo + a47)), (0, .ref (lo + x0)), (1, .int x1), (2, .int x2), (3, .ref (lo + x3)), (4, .int x4), (5, .int x5), (6, .int x6)] [.int r54] h52
        refine a_if_eq (tgt := 188) C dX11_playTurns_85 (by decide) (fun c60 => ?_) (fun c60 => ?_)
        · have e := ip c60 e
          obtain ⟨rfl, rfl⟩ := sp2 e
          exact a_widen (Nat.le_refl _) (Nat.le_refl _) (a_sub [1, 2, 3, 4, 5, 6, 7] rfl jj50)
        · have e := iN c60 e
          refine a_aload_n C dX11_playTurns_88 rfl 1 rfl ?_
          obtain ⟨a62, e61, e⟩ := bA_some e
          refine a_getN C cb10 6 (by decide) fl_X11_42 rfl dX11_playTurns_89 e61 ?_
          refine a_aload_n C dX11_playTurns_92 rfl 4 rfl ?_
          obtain ⟨u69, ec68, e⟩ := bA_some e
          obtain ⟨fs67, eo66⟩ := isC_some ec68
          obtain ⟨h63, e64, e⟩ := bA_some e
          refine a_callV (as := [.ref (lo + x3)]) (rest := []) C m_X3_become im_X3_become cb2 se_X3_X3_become_X3_become ml_X11_141 rfl (Nat.le_of_ble_eq_true rfl) (Nat.le_of_ble_eq_true rfl) (by exact hce) (by exact hsl) (Nat.le_of_ble_eq_true rfl) dX11_playTurns_93 eo66 (k_X3_become e64) rfl ?_
          show AW G lo ce sl 96 [(7, .ref (lo + a47)), (0, .ref (lo + x0)), (1, .int x1), (2, .int x2), (3, .ref (lo + x3)), (4, .int x4), (5, .int x5), (6, .int x6)] [] h63
          refine a_aload_n C dX11_playTurns_96 rfl 1 rfl ?_
          obtain ⟨a73, e72, e⟩ := bA_some e
          refine a_getN C cb10 11 (by decide) fl_X11_65 rfl dX11_playTurns_97 e72 ?_
          refine a_iconst (v := (0 : Int32)) C dX11_playTurns_100 (by decide) ?_
          refine a_iload C dX11_playTurns_101 7 rfl ?_
          obtain ⟨h74, e75, e⟩ := bA_some e
          refine a_iast C dX11_playTurns_103 e75 ?_
          refine a_aload_n C dX11_playTurns_104 rfl 1 rfl ?_
          obtain ⟨a77, e76, e⟩ := bA_some e
          refine a_getN C cb10 5 (by decide) fl_X11_39 rfl dX11_playTurns_105 e76 ?_
          refine a_aload_n C dX11_playTurns_108 rfl 1 rfl ?_
          obtain ⟨a79, e78, e⟩ := bA_some e
          refine a_getN C cb10 11 (by decide) fl_X11_65 rfl dX11_playTurns_109 e78 ?_
          refine a_iconst (v := (0 : Int32)) C dX11_playTurns_112 (by decide) ?_
          refine a_iconst (v := (1 : Int32)) C dX11_playTurns_113 (by decide) ?_
          obtain ⟨u86, ec85, e⟩ := bA_some e
          obtain ⟨fs84, eo83⟩ := isC_some ec85
          obtain ⟨h80, e81, e⟩ := bA_some e
          refine a_callV (as := [.ref (lo + a79), .int (0 : Int32), .int (1 : Int32)]) (rest := []) C m_X10_go im_X10_go cb9 se_X10_X10_go_X10_go ml_X11_174 rfl (Nat.le_of_ble_eq_true rfl) (Nat.le_of_ble_eq_true rfl) (by exact hce) (by exact hsl) (Nat.le_of_ble_eq_true rfl) dX11_playTurns_114 eo83 (k_X10_go e81) rfl ?_
          show AW G lo ce sl 117 [(7, .ref (lo + a47)), (0, .ref (lo + x0)), (1, .int x1), (2, .int x2), (3, .ref (lo + x3)), (4, .int x4), (5, .int x5), (6, .int x6)] [] h80
          refine a_aload_n C dX11_playTurns_117 rfl 1 rfl ?_
          obtain ⟨a90, e89, e⟩ := bA_some e
          refine a_getN C cb10 5 (by decide) fl_X11_39 rfl dX11_playTurns_118 e89 ?_
          obtain ⟨g92, e91, e⟩ := bA_some e
          refine a_getI C cb9 10 (by decide) fl_X11_178 rfl dX11_playTurns_121 e91 ?_
          obtain ⟨j94, eb96, e⟩ := bA_some e
          have jj95 : AW G lo ce sl 138 [(0, .ref (lo + x0)), (1, .int x1), (2, .int x2), (3, .ref (lo + x3)), (4, .int x4), (5, .int x5), (6, .int x6), (7, .ref (lo + a47))] [.int j94] h80 := by
            refine a_istore (lv2 := [(8, .int j94), (0, .ref (lo + x0)), (1, .int x1), (2, .int x2), (3, .ref (lo + x3)), (4, .int x4), (5, .int x5), (6, .int x6), (7, .ref (lo + a47))]) C dX11_playTurns_138 (by decide) rfl ?_
            refine a_iload C dX11_playTurns_140 5 rfl ?_
            obtain ⟨j102, eb104, e⟩ := bA_some e
            have jj103 : AW G lo ce sl 153 [(0, .ref (lo + x0)), (1, .int x1), (2, .int x2), (3, .ref (lo + x3)), (4, .int x4), (5, .int x5), (6, .int x6), (7, .ref (lo + a47)), (8, .int j94)] [.int j102] h80 := by
              refine a_aload_n C dX11_playTurns_153 rfl 0 rfl ?_
              refine a_iload_n C dX11_playTurns_154 rfl 1 rfl ?_
              refine a_iconst (v := (1 : Int32)) C dX11_playTurns_155 (by decide) ?_
              refine a_iadd C dX11_playTurns_156 ?_
              refine a_iload_n C dX11_playTurns_157 rfl 2 rfl ?_
              obtain ⟨u111, ec110, e⟩ := bA_some e
              obtain ⟨fs109, eo108⟩ := isC_some ec110
              obtain ⟨r107, h105, e106, e⟩ := b2_some e
              refine a_callV (as := [.int (x1 + (1 : Int32)), .int x2]) (rest := [.int j102]) C m_X11_playTurns im_X11_playTurns cb10 se_X11_X11_playTurns_X11_playTurns ml_X11_282 rfl hq.1 hq.2.1 (by rw [hq.2.2.1]; exact (by exact hce)) (by rw [hq.2.2.2]; exact (by exact hsl)) (Nat.le_of_ble_eq_true rfl) dX11_playTurns_158 eo108 (hrc _ _ _ _ _ _ e106) rfl ?_
              rw [hq.2.2.1, hq.2.2.2]
              show AW G lo ce sl 161 [(0, .ref (lo + x0)), (1, .int x1), (2, .int x2), (3, .ref (lo + x3)), (4, .int x4), (5, .int x5), (6, .int x6), (7, .ref (lo + a47)), (8, .int j94)] [.int r107, .int j102] h105
              refine a_iadd C dX11_playTurns_161 ?_
              refine a_istore (lv2 := [(9, .int (j102 + r107)), (0, .ref (lo + x0)), (1, .int x1), (2, .int x2), (3, .ref (lo + x3)), (4, .int x4), (5, .int x5), (6, .int x6), (7, .ref (lo + a47)), (8, .int j94)]) C dX11_playTurns_162 (by decide) rfl ?_
              refine a_iload C dX11_playTurns_164 5 rfl ?_
              obtain ⟨j115, eb117, e⟩ := bA_some e
              have jj116 : AW G lo ce sl 186 [(0, .ref (lo + x0)), (1, .int x1), (2, .int x2), (3, .ref (lo + x3)), (4, .int x4), (5, .int x5), (6, .int x6), (7, .ref (lo + a47)), (8, .int j94), (9, .int (j102 + r107))] [.int j115] h105 := by
                refine a_istore (lv2 := [(5, .int j115), (0, .ref (lo + x0)), (1, .int x1), (2, .int x2), (3, .ref (lo + x3)), (4, .int x4), (6, .int x6), (7, .ref (lo + a47)), (8, .int j94), (9, .int (j102 + r107))]) C dX11_playTurns_186 (by decide) rfl ?_
                obtain ⟨rfl, rfl⟩ := sp2 e
                exact a_widen (Nat.le_refl _) (Nat.le_refl _) (a_sub [1, 2, 3, 4, 5, 0, 6] rfl jj50)
              have e := eb117
              refine a_if_eq (tgt := 179) C dX11_playTurns_166 (by decide) (fun c114 => ?_) (fun c114 => ?_)
              · have e := ip c114 e
                refine a_iload C dX11_playTurns_179 6 rfl ?_
                refine a_iload C dX11_playTurns_181 0 rfl ?_
                refine a_mmin C ml_X11_356 sm_J9_min_7cf53 ini_J9 co_J9_min_7cf53 (Nat.le_of_ble_eq_true rfl) (Nat.le_of_ble_eq_true rfl) (by exact hce) (by exact hsl) dX11_playTurns_183 ?_
                obtain rfl := sp1 e
                exact a_widen (Nat.le_refl _) (Nat.le_refl _) (a_sub [1, 2, 3, 4, 5, 6, 7, 8, 9, 0] rfl jj116)
              · have e := iN c114 e
                refine a_iload C dX11_playTurns_169 6 rfl ?_
                refine a_iload C dX11_playTurns_171 0 rfl ?_
                refine a_mmax C ml_X11_260 sm_J9_max_7cf53 ini_J9 co_J9_max_7cf53 (Nat.le_of_ble_eq_true rfl) (Nat.le_of_ble_eq_true rfl) (by exact hce) (by exact hsl) dX11_playTurns_173 ?_
                refine a_goto (tgt := 186) C dX11_playTurns_176 (by decide) ?_
                obtain rfl := sp1 e
                exact a_widen (Nat.le_refl _) (Nat.le_refl _) (a_sub [1, 2, 3, 4, 5, 6, 7, 8, 9, 0] rfl jj116)
            have e := eb104
            refine a_if_eq (tgt := 150) C dX11_playTurns_142 (by decide) (fun c101 => ?_) (fun c101 => ?_)
            · have e := ip c101 e
              refine a_iload C dX11_playTurns_150 0 rfl ?_
              refine a_ineg C dX11_playTurns_152 ?_
              obtain rfl := sp1 e
              exact a_widen (Nat.le_refl _) (Nat.le_refl _) (a_sub [1, 2, 3, 4, 5, 6, 7, 8, 0] rfl jj103)
            · have e := iN c101 e
              refine a_iload C dX11_playTurns_145 0 rfl ?_
              refine a_goto (tgt := 153) C dX11_playTurns_147 (by decide) ?_
              obtain rfl := sp1 e
              exact a_widen (Nat.le_refl _) (Nat.le_refl _) (a_sub [1, 2, 3, 4, 5, 6, 7, 8, 0] rfl jj103)
          have e := eb96
          refine a_if_ne (tgt := 137) C dX11_playTurns_124 (by decide) (fun c93 => ?_) (fun c93 => ?_)
          · have e := iN c93 e
            refine a_iconst (v := (0 : Int32)) C dX11_playTurns_137 (by decide) ?_
            obtain rfl := sp1 e
            exact a_widen (Nat.le_refl _) (Nat.le_refl _) (a_sub [1, 2, 3, 4, 5, 6, 7, 0] rfl jj95)
          · have e := ip c93 e
            refine a_aload_n C dX11_playTurns_127 rfl 1 rfl ?_
            obtain ⟨a98, e97, e⟩ := bA_some e
            refine a_getN C cb10 5 (by decide) fl_X11_39 rfl dX11_playTurns_128 e97 ?_
            obtain ⟨g100, e99, e⟩ := bA_some e
            refine a_getI C cb9 9 (by decide) fl_X11_181 rfl dX11_playTurns_131 e99 ?_
            refine a_goto (tgt := 138) C dX11_playTurns_134 (by decide) ?_
            obtain rfl := sp1 e
            exact a_widen (Nat.le_refl _) (Nat.le_refl _) (a_sub [1, 2, 3, 4, 5, 6, 7, 0] rfl jj95)
set_option maxRecDepth 100000 in
set_option maxHeartbeats 4000000 in
theorem kr_X11_playTurns : ∀ (dep : Nat) {lo : Nat} (h : Hp) (x0 : Nat) (x1 : Int32) (x2 : Int32) (r : Int32) (h' : Hp), fr_X11_playTurns dep h x0 x1 x2 = some (r, h') → ∀ l d, AC l d lo yX11_playTurns cX11_playTurns 10 (some .int) ({ frames := dep + 4, cells := 0, slots := 0, locals := dep * 29 + 102 } : Room) [.ref (lo + x0), .int x1, .int x2] h (some (.int r)) h' := by
  intro dep
  induction dep with
  | zero =>
    intro lo h x0 x1 x2 r h' e
    cases (show (none : Option (Int32 × Hp)) = some (r, h') from e)
  | succ dep ih =>
    intro lo h x0 x1 x2 r h' e l d
    have hrc := fun (h : Hp) (x0 : Nat) (x1 : Int32) (x2 : Int32) (r : Int32) (h2 : Hp) (e : fr_X11_playTurns dep h x0 x1 x2 = some (r, h2)) => ih (lo := lo) h x0 x1 x2 r h2 e
    have hq : ({ frames := dep + 4, cells := 0, slots := 0, locals := dep * 29 + 102 } : Room).frames + 1 ≤ ({ frames := (dep + 1) + 4, cells := 0, slots := 0, locals := (dep + 1) * 29 + 102 } : Room).frames ∧ 8 + (10 + 11) + ({ frames := dep + 4, cells := 0, slots := 0, locals := dep * 29 + 102 } : Room).locals ≤ ({ frames := (dep + 1) + 4, cells := 0, slots := 0, locals := (dep + 1) * 29 + 102 } : Room).locals ∧ ({ frames := dep + 4, cells := 0, slots := 0, locals := dep * 29 + 102 } : Room).cells = 0 ∧ ({ frames := dep + 4, cells := 0, slots := 0, locals := dep * 29 + 102 } : Room).slots = 0 := ⟨by show dep + 4 + 1 ≤ dep + 1 + 4; omega, by show 8 + (10 + 11) + (dep * 29 + 102) ≤ (dep + 1) * 29 + 102; omega, rfl, rfl⟩
    refine AC_of (by decide) (Nat.le_of_ble_eq_true rfl) ?_
    intro G C _ _ q
    rw [fr_X11_playTurns] at e
    show AW G lo 0 0 0 [(0, .ref (lo + x0)), (1, .int x1), (2, .int x2)] [] h
    refine a_iload_n C dX11_playTurns_0 rfl 1 rfl ?_
    refine a_iload_n C dX11_playTurns_1 rfl 2 rfl ?_
    refine a_icmp_ge (tgt := 14) C dX11_playTurns_2 (by decide) (fun c1 => ?_) (fun c1 => ?_)
    · have e := ip c1 e
      refine a_iconst (v := (0 : Int32)) C dX11_playTurns_14 (by decide) ?_
      obtain ⟨rfl, rfl⟩ := sp2 e
      exact a_iret C q (Nat.le_of_ble_eq_true rfl) (Nat.le_of_ble_eq_true rfl) dX11_playTurns_15
    · have e := iN c1 e
      refine a_iload_n C dX11_playTurns_5 rfl 1 rfl ?_
      refine a_aload_n C dX11_playTurns_6 rfl 0 rfl ?_
      obtain ⟨a3, e2, e⟩ := bA_some e
      refine a_getN C cb10 10 (by decide) fl_X11_62 rfl dX11_playTurns_7 e2 ?_
      obtain ⟨n4, e5, e⟩ := bA_some e
      refine a_qln C (by decide) dX11_playTurns_10 e5 ?_
      refine a_icmp_lt (tgt := 16) C dX11_playTurns_11 (by decide) (fun c6 => ?_) (fun c6 => ?_)
      · have e := ip c6 e
        refine a_aload_n C dX11_playTurns_16 rfl 0 rfl ?_
        obtain ⟨a8, e7, e⟩ := bA_some e
        refine a_getN C cb10 10 (by decide) fl_X11_62 rfl dX11_playTurns_17 e7 ?_
        refine a_iload_n C dX11_playTurns_20 rfl 1 rfl ?_
        obtain ⟨a10, e9, e⟩ := bA_some e
        refine a_aldn C (by decide) dX11_playTurns_21 e9 ?_
        refine a_astore_n (lv2 := [(3, .ref (lo + a10)), (0, .ref (lo + x0)), (1, .int x1), (2, .int x2)]) C dX11_playTurns_22 rfl (by decide) rfl ?_
        refine a_aload_n C dX11_playTurns_23 rfl 0 rfl ?_
        refine a_aload_n C dX11_playTurns_24 rfl 1 rfl ?_
        obtain ⟨a12, e11, e⟩ := bA_some e
        refine a_getN C cb10 6 (by decide) fl_X11_42 rfl dX11_playTurns_25 e11 ?_
        obtain ⟨u19, ec18, e⟩ := bA_some e
        obtain ⟨fs17, eo16⟩ := isC_some ec18
        obtain ⟨h13, e14, e⟩ := bA_some e
        refine a_callV (as := [.ref (lo + a12)]) (rest := []) C m_X3_become im_X3_become cb2 se_X3_X3_become_X3_become ml_X11_141 rfl (Nat.le_of_ble_eq_true rfl) (Nat.le_of_ble_eq_true rfl) (Nat.le_of_ble_eq_true rfl) (Nat.le_of_ble_eq_true rfl) (Nat.le_of_ble_eq_true rfl) dX11_playTurns_28 eo16 (k_X3_become e14) rfl ?_
        show AW G lo 0 0 31 [(3, .ref (lo + a10)), (0, .ref (lo + x0)), (1, .int x1), (2, .int x2)] [] h13
        refine a_iload_n C dX11_playTurns_31 rfl 2 rfl ?_
        refine a_iconst (v := (2 : Int32)) C dX11_playTurns_32 (by decide) ?_
        refine a_irem C dX11_playTurns_33 (by decide) ?_
        obtain ⟨j23, eb25, e⟩ := bA_some e
        have jj24 : AW G lo 0 0 42 [(0, .ref (lo + x0)), (1, .int x1), (2, .int x2), (3, .ref (lo + a10))] [.int j23] h13 := by
          refine a_istore (lv2 := [(4, .int j23), (0, .ref (lo + x0)), (1, .int x1), (2, .int x2), (3, .ref (lo + a10))]) C dX11_playTurns_42 (by decide) rfl ?_
          refine a_aload_n C dX11_playTurns_44 rfl 1 rfl ?_
          refine a_iload_n C dX11_playTurns_45 rfl 2 rfl ?_
          refine a_iconst (v := (1 : Int32)) C dX11_playTurns_46 (by decide) ?_
          refine a_iadd C dX11_playTurns_47 ?_
          refine a_iload_n C dX11_playTurns_48 rfl 3 rfl ?_
          obtain ⟨u32, ec31, e⟩ := bA_some e
          obtain ⟨fs30, eo29⟩ := isC_some ec31
          obtain ⟨r28, h26, e27, e⟩ := b2_some e
          refine a_callV (as := [.int (x1 + (1 : Int32)), .int x2]) (rest := []) C m_X11_playTurns im_X11_playTurns cb10 se_X11_X11_playTurns_X11_playTurns ml_X11_282 rfl hq.1 hq.2.1 (by rw [hq.2.2.1]; exact (Nat.le_of_ble_eq_true rfl)) (by rw [hq.2.2.2]; exact (Nat.le_of_ble_eq_true rfl)) (Nat.le_of_ble_eq_true rfl) dX11_playTurns_49 eo29 (hrc _ _ _ _ _ _ e27) rfl ?_
          rw [hq.2.2.1, hq.2.2.2]
          show AW G lo 0 0 52 [(4, .int j23), (0, .ref (lo + x0)), (1, .int x1), (2, .int x2), (3, .ref (lo + a10))] [.int r28] h26
          refine a_istore (lv2 := [(5, .int r28), (4, .int j23), (0, .ref (lo + x0)), (1, .int x1), (2, .int x2), (3, .ref (lo + a10))]) C dX11_playTurns_52 (by decide) rfl ?_
          refine a_iconst (v := (0 : Int32)) C dX11_playTurns_54 (by decide) ?_
          refine a_istore (lv2 := [(6, .int (0 : Int32)), (5, .int r28), (4, .int j23), (0, .ref (lo + x0)), (1, .int x1), (2, .int x2), (3, .ref (lo + a10))]) C dX11_playTurns_55 (by decide) rfl ?_
          refine a_sub [3, 4, 5, 6, 2, 1, 0] rfl (w_X11_playTurns_L57 C hrc hq ?_ (Nat.le_of_ble_eq_true rfl) (Nat.le_of_ble_eq_true rfl) 2000 _ _ _ e)
          intro h118 y119 y120 e
          show AW G lo 0 0 194 [(0, .ref (lo + x0)), (1, .int x1), (2, .int x2), (3, .ref (lo + a10)), (4, .int j23), (5, .int y119), (6, .int y120)] [] h118
          refine a_iload C dX11_playTurns_194 5 rfl ?_
          obtain ⟨rfl, rfl⟩ := sp2 e
          exact a_iret C q (Nat.le_of_ble_eq_true rfl) (Nat.le_of_ble_eq_true rfl) dX11_playTurns_196
        have e := eb25
        refine a_if_ne (tgt := 41) C dX11_playTurns_34 (by decide) (fun c22 => ?_) (fun c22 => ?_)
        · have e := iN c22 e
          refine a_iconst (v := (0 : Int32)) C dX11_playTurns_41 (by decide) ?_
          obtain rfl := sp1 e
          exact a_widen (Nat.le_of_ble_eq_true rfl) (Nat.le_of_ble_eq_true rfl) (a_sub [1, 2, 3, 0] rfl jj24)
        · have e := ip c22 e
          refine a_iconst (v := (1 : Int32)) C dX11_playTurns_37 (by decide) ?_
          refine a_goto (tgt := 42) C dX11_playTurns_38 (by decide) ?_
          obtain rfl := sp1 e
          exact a_widen (Nat.le_of_ble_eq_true rfl) (Nat.le_of_ble_eq_true rfl) (a_sub [1, 2, 3, 0] rfl jj24)
      · have e := iN c6 e
        refine a_iconst (v := (0 : Int32)) C dX11_playTurns_14 (by decide) ?_
        obtain ⟨rfl, rfl⟩ := sp2 e
        exact a_iret C q (Nat.le_of_ble_eq_true rfl) (Nat.le_of_ble_eq_true rfl) dX11_playTurns_15

theorem k_X11_playTurns {lo : Nat} {h : Hp} {x0 : Nat} {x1 : Int32} {x2 : Int32} {r : Int32} {h' : Hp} (e : f_X11_playTurns h x0 x1 x2 = some (r, h')) : ∀ l d, AC l d lo yX11_playTurns cX11_playTurns 10 (some .int) ({ frames := 9, cells := 0, slots := 0, locals := 247 } : Room) [.ref (lo + x0), .int x1, .int x2] h (some (.int r)) h' := kr_X11_playTurns 5 h x0 x1 x2 r h' e

set_option maxRecDepth 100000 in
def f_X11_kindsFor_L6 {β : Type} (k : Int32 → Int32 → Hp → Option (β)) (x0 : Nat) (x1 : Int32) (x2 : Nat) (x3 : Int32) (x4 : Int32) (x5 : Int32) : Nat → Hp → Int32 → Int32 → Option (β)
  | 0, _, _, _ => none
  | fuel + 1, h, x6, x7 => (if (5 : Int32) < x7 then k x6 x7 h else bA (gN h x0 10 6) fun a3 => bA (gN h x0 10 3) fun a5 => bA (isC h a3 2) fun u12 => bA (f_X3_become h a3 a5) fun h6 => bA (gN h6 x0 10 6) fun a16 => bA (gN h6 x0 10 6) fun a18 => bA (isC h6 a18 2) fun u25 => b2 (f_X3_numberOf h6 a18 x1) fun r21 h19 => bA (isC h19 a16 2) fun u34 => bA (f_X3_changeDoor h19 a16 x1 x7 r21) fun h28 => bA (gN h28 x0 10 5) fun a38 => bA (isC h28 a38 9) fun u45 => bA (f_X10_go h28 a38 x2 x3 x4) fun h39 => bA (gN h39 x0 10 5) fun a49 => bA (isC h39 a49 9) fun u56 => b2 (f_X10_outcome h39 a49 ) fun r52 h50 => bA (if r52 = x5 then some (x6 ||| ((1 : Int32) <<< (x7 &&& 31))) else some x6) fun j60 => f_X11_kindsFor_L6 k x0 x1 x2 x3 x4 x5 fuel h50 j60 (x7 + (1 : Int32)))

set_option maxRecDepth 100000 in
def f_X11_kindsFor (h : Hp) (x0 : Nat) (x1 : Int32) (x2 : Nat) (x3 : Int32) (x4 : Int32) (x5 : Int32) : Option (Int32 × Hp) := f_X11_kindsFor_L6 (fun y64 y65 h63 => some (y64, h63)) x0 x1 x2 x3 x4 x5 12 h (0 : Int32) (1 : Int32)

theorem m_X11_kindsFor : MI yX11_kindsFor cX11_kindsFor 8 (some .int) 5 := ⟨co_X11_kindsFor, ini_X11, by decide, by decide +kernel⟩
set_option maxRecDepth 100000 in
set_option maxHeartbeats 4000000 in
theorem w_X11_kindsFor_L6 {G : Gm} {lo : Nat} (C : CX G lo cX11_kindsFor RX11 (some .int) ({ frames := 6, cells := 12, slots := 48, locals := 140 } : Room) 8) {β : Type} {res : β} {k : Int32 → Int32 → Hp → Option (β)} {x0 : Nat} {x1 : Int32} {x2 : Nat} {x3 : Int32} {x4 : Int32} {x5 : Int32} {cx sx : Nat} (hcx : cx ≤ 12) (hsx : sx ≤ 48) (hk : ∀ (h : Hp) (x6 : Int32) (x7 : Int32), k x6 x7 h = some res → AW G lo cx sx 79 [(0, .ref (lo + x0)), (1, .int x1), (2, .ref (lo + x2)), (3, .int x3), (4, .int x4), (5, .int x5), (6, .int x6), (7, .int x7)] [] h) : ∀ (fuel ce sl : Nat) (h : Hp) (x6 : Int32) (x7 : Int32), ce + fuel * 1 ≤ cx → sl + fuel * 4 ≤ sx → f_X11_kindsFor_L6 k x0 x1 x2 x3 x4 x5 fuel h x6 x7 = some res → AW G lo ce sl 6 [(0, .ref (lo + x0)), (1, .int x1), (2, .ref (lo + x2)), (3, .int x3), (4, .int x4), (5, .int x5), (6, .int x6), (7, .int x7)] [] h := by
  intro fuel
  induction fuel with
  | zero =>
    intro ce sl h x6 x7 _ _ e
    cases (show (none : Option (β)) = some res from e)
  | succ fuel ih =>
    intro ce sl h x6 x7 hc1 hs1 e
    rw [f_X11_kindsFor_L6] at e
    refine a_iload C dX11_kindsFor_6 7 rfl ?_
    refine a_iconst (v := (5 : Int32)) C dX11_kindsFor_8 (by decide) ?_
    refine a_icmp_gt (tgt := 79) C dX11_kindsFor_9 (by decide) (fun c1 => ?_) (fun c1 => ?_)
    · have e := ip c1 e
      exact a_sub [0, 1, 2, 3, 4, 5, 6, 7] rfl (a_widen (by omega) (by omega) (hk _ _ _ e))
    · have e := iN c1 e
      refine a_aload_n C dX11_kindsFor_12 rfl 0 rfl ?_
      obtain ⟨a3, e2, e⟩ := bA_some e
      refine a_getN C cb10 6 (by decide) fl_X11_42 rfl dX11_kindsFor_13 e2 ?_
      refine a_aload_n C dX11_kindsFor_16 rfl 0 rfl ?_
      obtain ⟨a5, e4, e⟩ := bA_some e
      refine a_getN C cb10 3 (by decide) fl_X11_33 rfl dX11_kindsFor_17 e4 ?_
      obtain ⟨u12, ec11, e⟩ := bA_some e
      obtain ⟨fs10, eo9⟩ := isC_some ec11
      obtain ⟨h6, e7, e⟩ := bA_some e
      refine a_callV (as := [.ref (lo + a5)]) (rest := []) C m_X3_become im_X3_become cb2 se_X3_X3_become_X3_become ml_X11_141 rfl (Nat.le_of_ble_eq_true rfl) (Nat.le_of_ble_eq_true rfl) (by show ce ≤ (12 : Nat); omega) (by show sl ≤ (48 : Nat); omega) (Nat.le_of_ble_eq_true rfl) dX11_kindsFor_20 eo9 (k_X3_become e7) rfl ?_
      show AW G lo ce sl 23 [(0, .ref (lo + x0)), (1, .int x1), (2, .ref (lo + x2)), (3, .int x3), (4, .int x4), (5, .int x5), (6, .int x6), (7, .int x7)] [] h6
      refine a_aload_n C dX11_kindsFor_23 rfl 0 rfl ?_
      obtain ⟨a16, e15, e⟩ := bA_some e
      refine a_getN C cb10 6 (by decide) fl_X11_42 rfl dX11_kindsFor_24 e15 ?_
      refine a_iload_n C dX11_kindsFor_27 rfl 1 rfl ?_
      refine a_iload C dX11_kindsFor_28 7 rfl ?_
      refine a_aload_n C dX11_kindsFor_30 rfl 0 rfl ?_
      obtain ⟨a18, e17, e⟩ := bA_some e
      refine a_getN C cb10 6 (by decide) fl_X11_42 rfl dX11_kindsFor_31 e17 ?_
      refine a_iload_n C dX11_kindsFor_34 rfl 1 rfl ?_
      obtain ⟨u25, ec24, e⟩ := bA_some e
      obtain ⟨fs23, eo22⟩ := isC_some ec24
      obtain ⟨r21, h19, e20, e⟩ := b2_some e
      refine a_callV (as := [.int x1]) (rest := [.int x7, .int x1, .ref (lo + a16)]) C m_X3_numberOf im_X3_numberOf cb2 se_X3_X3_numberOf_X3_numberOf ml_X11_359 rfl (Nat.le_of_ble_eq_true rfl) (Nat.le_of_ble_eq_true rfl) (by show ce ≤ (12 : Nat); omega) (by show sl ≤ (48 : Nat); omega) (Nat.le_of_ble_eq_true rfl) dX11_kindsFor_35 eo22 (k_X3_numberOf e20) rfl ?_
      show AW G lo ce sl 38 [(0, .ref (lo + x0)), (1, .int x1), (2, .ref (lo + x2)), (3, .int x3), (4, .int x4), (5, .int x5), (6, .int x6), (7, .int x7)] [.int r21, .int x7, .int x1, .ref (lo + a16)] h19
      obtain ⟨u34, ec33, e⟩ := bA_some e
      obtain ⟨fs32, eo31⟩ := isC_some ec33
      obtain ⟨h28, e29, e⟩ := bA_some e
      refine a_callV (as := [.int x1, .int x7, .int r21]) (rest := []) C m_X3_changeDoor im_X3_changeDoor cb2 se_X3_X3_changeDoor_X3_changeDoor ml_X11_362 rfl (Nat.le_of_ble_eq_true rfl) (Nat.le_of_ble_eq_true rfl) (by show (ce + 1) ≤ (12 : Nat); omega) (by show (sl + 4) ≤ (48 : Nat); omega) (Nat.le_of_ble_eq_true rfl) dX11_kindsFor_38 eo31 (k_X3_changeDoor e29) rfl ?_
      show AW G lo (ce + 1) (sl + 4) 41 [(0, .ref (lo + x0)), (1, .int x1), (2, .ref (lo + x2)), (3, .int x3), (4, .int x4), (5, .int x5), (6, .int x6), (7, .int x7)] [] h28
      refine a_aload_n C dX11_kindsFor_41 rfl 0 rfl ?_
      obtain ⟨a38, e37, e⟩ := bA_some e
      refine a_getN C cb10 5 (by decide) fl_X11_39 rfl dX11_kindsFor_42 e37 ?_
      refine a_aload_n C dX11_kindsFor_45 rfl 2 rfl ?_
      refine a_iload_n C dX11_kindsFor_46 rfl 3 rfl ?_
      refine a_iload C dX11_kindsFor_47 4 rfl ?_
      obtain ⟨u45, ec44, e⟩ := bA_some e
      obtain ⟨fs43, eo42⟩ := isC_some ec44
      obtain ⟨h39, e40, e⟩ := bA_some e
      refine a_callV (as := [.ref (lo + x2), .int x3, .int x4]) (rest := []) C m_X10_go im_X10_go cb9 se_X10_X10_go_X10_go ml_X11_174 rfl (Nat.le_of_ble_eq_true rfl) (Nat.le_of_ble_eq_true rfl) (by show (ce + 1) ≤ (12 : Nat); omega) (by show (sl + 4) ≤ (48 : Nat); omega) (Nat.le_of_ble_eq_true rfl) dX11_kindsFor_49 eo42 (k_X10_go e40) rfl ?_
      show AW G lo (ce + 1) (sl + 4) 52 [(0, .ref (lo + x0)), (1, .int x1), (2, .ref (lo + x2)), (3, .int x3), (4, .int x4), (5, .int x5), (6, .int x6), (7, .int x7)] [] h39
      refine a_aload_n C dX11_kindsFor_52 rfl 0 rfl ?_
      obtain ⟨a49, e48, e⟩ := bA_some e
      refine a_getN C cb10 5 (by decide) fl_X11_39 rfl dX11_kindsFor_53 e48 ?_
      obtain ⟨u56, ec55, e⟩ := bA_some e
      obtain ⟨fs54, eo53⟩ := isC_some ec55
      obtain ⟨r52, h50, e51, e⟩ := b2_some e
      refine a_callV (as := []) (rest := []) C m_X10_outcome im_X10_outcome cb9 se_X10_X10_outcome_X10_outcome ml_X11_240 rfl (Nat.le_of_ble_eq_true rfl) (Nat.le_of_ble_eq_true rfl) (by show (ce + 1) ≤ (12 : Nat); omega) (by show (sl + 4) ≤ (48 : Nat); omega) (Nat.le_of_ble_eq_true rfl) dX11_kindsFor_56 eo53 (k_X10_outcome e51) rfl ?_
      show AW G lo (ce + 1) (sl + 4) 59 [(0, .ref (lo + x0)), (1, .int x1), (2, .ref (lo + x2)), (3, .int x3), (4, .int x4), (5, .int x5), (6, .int x6), (7, .int x7)] [.int r52] h50
      refine a_iload C dX11_kindsFor_59 5 rfl ?_
      obtain ⟨j60, eb62, e⟩ := bA_some e
      have jj61 : AW G lo (ce + 1) (sl + 4) 73 [(0, .ref (lo + x0)), (1, .int x1), (2, .ref (lo + x2)), (3, .int x3), (4, .int x4), (5, .int x5), (6, .int j60), (7, .int x7)] [] h50 := by
        refine a_iinc (v := x7 + (1 : Int32)) (lv2 := [(7, .int (x7 + (1 : Int32))), (0, .ref (lo + x0)), (1, .int x1), (2, .ref (lo + x2)), (3, .int x3), (4, .int x4), (5, .int x5), (6, .int j60)]) C dX11_kindsFor_73 7 rfl rfl (by decide) rfl ?_
        refine a_goto (tgt := 6) C dX11_kindsFor_76 (by decide) ?_
        exact a_sub [1, 2, 3, 4, 5, 6, 7, 0] rfl (a_widen (ce2 := ce + 1) (sl2 := sl + 4) (by omega) (by omega) (ih _ _ _ _ _ (by omega) (by omega) e))
      have e := eb62
      refine a_icmp_ne (tgt := 73) C dX11_kindsFor_61 (by decide) (fun c59 => ?_) (fun c59 => ?_)
      · have e := iN c59 e
        obtain rfl := sp1 e
        exact a_widen (by omega) (by omega) (a_sub [0, 1, 2, 3, 4, 5, 6, 7] rfl jj61)
      · have e := ip c59 e
        refine a_iload C dX11_kindsFor_64 6 rfl ?_
        refine a_iconst (v := (1 : Int32)) C dX11_kindsFor_66 (by decide) ?_
        refine a_iload C dX11_kindsFor_67 7 rfl ?_
        refine a_ishl C dX11_kindsFor_69 ?_
        refine a_ior C dX11_kindsFor_70 ?_
        refine a_istore (lv2 := [(6, .int (x6 ||| ((1 : Int32) <<< (x7 &&& 31)))), (0, .ref (lo + x0)), (1, .int x1), (2, .ref (lo + x2)), (3, .int x3), (4, .int x4), (5, .int x5), (7, .int x7)]) C dX11_kindsFor_71 (by decide) rfl ?_
        obtain rfl := sp1 e
        exact a_widen (by omega) (by omega) (a_sub [1, 2, 3, 4, 5, 6, 0, 7] rfl jj61)
set_option maxRecDepth 100000 in
set_option maxHeartbeats 4000000 in
theorem k_X11_kindsFor {lo : Nat} {h : Hp} {x0 : Nat} {x1 : Int32} {x2 : Nat} {x3 : Int32} {x4 : Int32} {x5 : Int32} {r : Int32} {h' : Hp} (e : f_X11_kindsFor h x0 x1 x2 x3 x4 x5 = some (r, h')) : ∀ l d, AC l d lo yX11_kindsFor cX11_kindsFor 8 (some .int) ({ frames := 6, cells := 12, slots := 48, locals := 140 } : Room) [.ref (lo + x0), .int x1, .ref (lo + x2), .int x3, .int x4, .int x5] h (some (.int r)) h' := by
  intro l d
  refine AC_of (by decide) (Nat.le_of_ble_eq_true rfl) ?_
  intro G C _ _ q
  unfold f_X11_kindsFor at e
  show AW G lo 0 0 0 [(0, .ref (lo + x0)), (1, .int x1), (2, .ref (lo + x2)), (3, .int x3), (4, .int x4), (5, .int x5)] [] h
  refine a_iconst (v := (0 : Int32)) C dX11_kindsFor_0 (by decide) ?_
  refine a_istore (lv2 := [(6, .int (0 : Int32)), (0, .ref (lo + x0)), (1, .int x1), (2, .ref (lo + x2)), (3, .int x3), (4, .int x4), (5, .int x5)]) C dX11_kindsFor_1 (by decide) rfl ?_
  refine a_iconst (v := (1 : Int32)) C dX11_kindsFor_3 (by decide) ?_
  refine a_istore (lv2 := [(7, .int (1 : Int32)), (6, .int (0 : Int32)), (0, .ref (lo + x0)), (1, .int x1), (2, .ref (lo + x2)), (3, .int x3), (4, .int x4), (5, .int x5)]) C dX11_kindsFor_4 (by decide) rfl ?_
  refine a_sub [2, 3, 4, 5, 6, 7, 1, 0] rfl (w_X11_kindsFor_L6 (cx := 12) (sx := 48) C (Nat.le_of_ble_eq_true rfl) (Nat.le_of_ble_eq_true rfl) ?_ 12 _ _ _ _ _ (Nat.le_of_ble_eq_true rfl) (Nat.le_of_ble_eq_true rfl) e)
  intro h63 y64 y65 e
  show AW G lo 12 48 79 [(0, .ref (lo + x0)), (1, .int x1), (2, .ref (lo + x2)), (3, .int x3), (4, .int x4), (5, .int x5), (6, .int y64), (7, .int y65)] [] h63
  refine a_iload C dX11_kindsFor_79 6 rfl ?_
  obtain ⟨rfl, rfl⟩ := sp2 e
  exact a_iret C q (Nat.le_of_ble_eq_true rfl) (Nat.le_of_ble_eq_true rfl) dX11_kindsFor_81

set_option maxRecDepth 100000 in
def f_X11_numbersFor_L6 {β : Type} (k : Int32 → Int32 → Hp → Option (β)) (x0 : Nat) (x1 : Int32) (x2 : Nat) (x3 : Int32) (x4 : Int32) (x5 : Int32) : Nat → Hp → Int32 → Int32 → Option (β)
  | 0, _, _, _ => none
  | fuel + 1, h, x6, x7 => (if (9 : Int32) < x7 then k x6 x7 h else bA (gN h x0 10 6) fun a3 => bA (gN h x0 10 3) fun a5 => bA (isC h a3 2) fun u12 => bA (f_X3_become h a3 a5) fun h6 => bA (gN h6 x0 10 6) fun a16 => bA (gN h6 x0 10 6) fun a18 => bA (isC h6 a18 2) fun u25 => b2 (f_X3_sortOf h6 a18 x1) fun r21 h19 => bA (isC h19 a16 2) fun u34 => bA (f_X3_changeDoor h19 a16 x1 r21 x7) fun h28 => bA (gN h28 x0 10 5) fun a38 => bA (isC h28 a38 9) fun u45 => bA (f_X10_go h28 a38 x2 x3 x4) fun h39 => bA (gN h39 x0 10 5) fun a49 => bA (isC h39 a49 9) fun u56 => b2 (f_X10_outcome h39 a49 ) fun r52 h50 => bA (if r52 = x5 then some (x6 ||| ((1 : Int32) <<< (x7 &&& 31))) else some x6) fun j60 => f_X11_numbersFor_L6 k x0 x1 x2 x3 x4 x5 fuel h50 j60 (x7 + (1 : Int32)))

set_option maxRecDepth 100000 in
def f_X11_numbersFor (h : Hp) (x0 : Nat) (x1 : Int32) (x2 : Nat) (x3 : Int32) (x4 : Int32) (x5 : Int32) : Option (Int32 × Hp) := f_X11_numbersFor_L6 (fun y64 y65 h63 => some (y64, h63)) x0 x1 x2 x3 x4 x5 12 h (0 : Int32) (0 : Int32)

theorem m_X11_numbersFor : MI yX11_numbersFor cX11_numbersFor 8 (some .int) 5 := ⟨co_X11_numbersFor, ini_X11, by decide, by decide +kernel⟩
set_option maxRecDepth 100000 in
set_option maxHeartbeats 4000000 in
theorem w_X11_numbersFor_L6 {G : Gm} {lo : Nat} (C : CX G lo cX11_numbersFor RX11 (some .int) ({ frames := 6, cells := 12, slots := 48, locals := 140 } : Room) 8) {β : Type} {res : β} {k : Int32 → Int32 → Hp → Option (β)} {x0 : Nat} {x1 : Int32} {x2 : Nat} {x3 : Int32} {x4 : Int32} {x5 : Int32} {cx sx : Nat} (hcx : cx ≤ 12) (hsx : sx ≤ 48) (hk : ∀ (h : Hp) (x6 : Int32) (x7 : Int32), k x6 x7 h = some res → AW G lo cx sx 80 [(0, .ref (lo + x0)), (1, .int x1), (2, .ref (lo + x2)), (3, .int x3), (4, .int x4), (5, .int x5), (6, .int x6), (7, .int x7)] [] h) : ∀ (fuel ce sl : Nat) (h : Hp) (x6 : Int32) (x7 : Int32), ce + fuel * 1 ≤ cx → sl + fuel * 4 ≤ sx → f_X11_numbersFor_L6 k x0 x1 x2 x3 x4 x5 fuel h x6 x7 = some res → AW G lo ce sl 6 [(0, .ref (lo + x0)), (1, .int x1), (2, .ref (lo + x2)), (3, .int x3), (4, .int x4), (5, .int x5), (6, .int x6), (7, .int x7)] [] h := by
  intro fuel
  induction fuel with
  | zero =>
    intro ce sl h x6 x7 _ _ e
    cases (show (none : Option (β)) = some res from e)
  | succ fuel ih =>
    intro ce sl h x6 x7 hc1 hs1 e
    rw [f_X11_numbersFor_L6] at e
    refine a_iload C dX11_numbersFor_6 7 rfl ?_
    refine a_bipush (v := (9 : Int32)) C dX11_numbersFor_8 (by decide) ?_
    refine a_icmp_gt (tgt := 80) C dX11_numbersFor_10 (by decide) (fun c1 => ?_) (fun c1 => ?_)
    · have e := ip c1 e
      exact a_sub [0, 1, 2, 3, 4, 5, 6, 7] rfl (a_widen (by omega) (by omega) (hk _ _ _ e))
    · have e := iN c1 e
      refine a_aload_n C dX11_numbersFor_13 rfl 0 rfl ?_
      obtain ⟨a3, e2, e⟩ := bA_some e
      refine a_getN C cb10 6 (by decide) fl_X11_42 rfl dX11_numbersFor_14 e2 ?_
      refine a_aload_n C dX11_numbersFor_17 rfl 0 rfl ?_
      obtain ⟨a5, e4, e⟩ := bA_some e
      refine a_getN C cb10 3 (by decide) fl_X11_33 rfl dX11_numbersFor_18 e4 ?_
      obtain ⟨u12, ec11, e⟩ := bA_some e
      obtain ⟨fs10, eo9⟩ := isC_some ec11
      obtain ⟨h6, e7, e⟩ := bA_some e
      refine a_callV (as := [.ref (lo + a5)]) (rest := []) C m_X3_become im_X3_become cb2 se_X3_X3_become_X3_become ml_X11_141 rfl (Nat.le_of_ble_eq_true rfl) (Nat.le_of_ble_eq_true rfl) (by show ce ≤ (12 : Nat); omega) (by show sl ≤ (48 : Nat); omega) (Nat.le_of_ble_eq_true rfl) dX11_numbersFor_21 eo9 (k_X3_become e7) rfl ?_
      show AW G lo ce sl 24 [(0, .ref (lo + x0)), (1, .int x1), (2, .ref (lo + x2)), (3, .int x3), (4, .int x4), (5, .int x5), (6, .int x6), (7, .int x7)] [] h6
      refine a_aload_n C dX11_numbersFor_24 rfl 0 rfl ?_
      obtain ⟨a16, e15, e⟩ := bA_some e
      refine a_getN C cb10 6 (by decide) fl_X11_42 rfl dX11_numbersFor_25 e15 ?_
      refine a_iload_n C dX11_numbersFor_28 rfl 1 rfl ?_
      refine a_aload_n C dX11_numbersFor_29 rfl 0 rfl ?_
      obtain ⟨a18, e17, e⟩ := bA_some e
      refine a_getN C cb10 6 (by decide) fl_X11_42 rfl dX11_numbersFor_30 e17 ?_
      refine a_iload_n C dX11_numbersFor_33 rfl 1 rfl ?_
      obtain ⟨u25, ec24, e⟩ := bA_some e
      obtain ⟨fs23, eo22⟩ := isC_some ec24
      obtain ⟨r21, h19, e20, e⟩ := b2_some e
      refine a_callV (as := [.int x1]) (rest := [.int x1, .ref (lo + a16)]) C m_X3_sortOf im_X3_sortOf cb2 se_X3_X3_sortOf_X3_sortOf ml_X11_366 rfl (Nat.le_of_ble_eq_true rfl) (Nat.le_of_ble_eq_true rfl) (by show ce ≤ (12 : Nat); omega) (by show sl ≤ (48 : Nat); omega) (Nat.le_of_ble_eq_true rfl) dX11_numbersFor_34 eo22 (k_X3_sortOf e20) rfl ?_
      show AW G lo ce sl 37 [(0, .ref (lo + x0)), (1, .int x1), (2, .ref (lo + x2)), (3, .int x3), (4, .int x4), (5, .int x5), (6, .int x6), (7, .int x7)] [.int r21, .int x1, .ref (lo + a16)] h19
      refine a_iload C dX11_numbersFor_37 7 rfl ?_
      obtain ⟨u34, ec33, e⟩ := bA_some e
      obtain ⟨fs32, eo31⟩ := isC_some ec33
      obtain ⟨h28, e29, e⟩ := bA_some e
      refine a_callV (as := [.int x1, .int r21, .int x7]) (rest := []) C m_X3_changeDoor im_X3_changeDoor cb2 se_X3_X3_changeDoor_X3_changeDoor ml_X11_362 rfl (Nat.le_of_ble_eq_true rfl) (Nat.le_of_ble_eq_true rfl) (by show (ce + 1) ≤ (12 : Nat); omega) (by show (sl + 4) ≤ (48 : Nat); omega) (Nat.le_of_ble_eq_true rfl) dX11_numbersFor_39 eo31 (k_X3_changeDoor e29) rfl ?_
      show AW G lo (ce + 1) (sl + 4) 42 [(0, .ref (lo + x0)), (1, .int x1), (2, .ref (lo + x2)), (3, .int x3), (4, .int x4), (5, .int x5), (6, .int x6), (7, .int x7)] [] h28
      refine a_aload_n C dX11_numbersFor_42 rfl 0 rfl ?_
      obtain ⟨a38, e37, e⟩ := bA_some e
      refine a_getN C cb10 5 (by decide) fl_X11_39 rfl dX11_numbersFor_43 e37 ?_
      refine a_aload_n C dX11_numbersFor_46 rfl 2 rfl ?_
      refine a_iload_n C dX11_numbersFor_47 rfl 3 rfl ?_
      refine a_iload C dX11_numbersFor_48 4 rfl ?_
      obtain ⟨u45, ec44, e⟩ := bA_some e
      obtain ⟨fs43, eo42⟩ := isC_some ec44
      obtain ⟨h39, e40, e⟩ := bA_some e
      refine a_callV (as := [.ref (lo + x2), .int x3, .int x4]) (rest := []) C m_X10_go im_X10_go cb9 se_X10_X10_go_X10_go ml_X11_174 rfl (Nat.le_of_ble_eq_true rfl) (Nat.le_of_ble_eq_true rfl) (by show (ce + 1) ≤ (12 : Nat); omega) (by show (sl + 4) ≤ (48 : Nat); omega) (Nat.le_of_ble_eq_true rfl) dX11_numbersFor_50 eo42 (k_X10_go e40) rfl ?_
      show AW G lo (ce + 1) (sl + 4) 53 [(0, .ref (lo + x0)), (1, .int x1), (2, .ref (lo + x2)), (3, .int x3), (4, .int x4), (5, .int x5), (6, .int x6), (7, .int x7)] [] h39
      refine a_aload_n C dX11_numbersFor_53 rfl 0 rfl ?_
      obtain ⟨a49, e48, e⟩ := bA_some e
      refine a_getN C cb10 5 (by decide) fl_X11_39 rfl dX11_numbersFor_54 e48 ?_
      obtain ⟨u56, ec55, e⟩ := bA_some e
      obtain ⟨fs54, eo53⟩ := isC_some ec55
      obtain ⟨r52, h50, e51, e⟩ := b2_some e
      refine a_callV (as := []) (rest := []) C m_X10_outcome im_X10_outcome cb9 se_X10_X10_outcome_X10_outcome ml_X11_240 rfl (Nat.le_of_ble_eq_true rfl) (Nat.le_of_ble_eq_true rfl) (by show (ce + 1) ≤ (12 : Nat); omega) (by show (sl + 4) ≤ (48 : Nat); omega) (Nat.le_of_ble_eq_true rfl) dX11_numbersFor_57 eo53 (k_X10_outcome e51) rfl ?_
      show AW G lo (ce + 1) (sl + 4) 60 [(0, .ref (lo + x0)), (1, .int x1), (2, .ref (lo + x2)), (3, .int x3), (4, .int x4), (5, .int x5), (6, .int x6), (7, .int x7)] [.int r52] h50
      refine a_iload C dX11_numbersFor_60 5 rfl ?_
      obtain ⟨j60, eb62, e⟩ := bA_some e
      have jj61 : AW G lo (ce + 1) (sl + 4) 74 [(0, .ref (lo + x0)), (1, .int x1), (2, .ref (lo + x2)), (3, .int x3), (4, .int x4), (5, .int x5), (6, .int j60), (7, .int x7)] [] h50 := by
        refine a_iinc (v := x7 + (1 : Int32)) (lv2 := [(7, .int (x7 + (1 : Int32))), (0, .ref (lo + x0)), (1, .int x1), (2, .ref (lo + x2)), (3, .int x3), (4, .int x4), (5, .int x5), (6, .int j60)]) C dX11_numbersFor_74 7 rfl rfl (by decide) rfl ?_
        refine a_goto (tgt := 6) C dX11_numbersFor_77 (by decide) ?_
        exact a_sub [1, 2, 3, 4, 5, 6, 7, 0] rfl (a_widen (ce2 := ce + 1) (sl2 := sl + 4) (by omega) (by omega) (ih _ _ _ _ _ (by omega) (by omega) e))
      have e := eb62
      refine a_icmp_ne (tgt := 74) C dX11_numbersFor_62 (by decide) (fun c59 => ?_) (fun c59 => ?_)
      · have e := iN c59 e
        obtain rfl := sp1 e
        exact a_widen (by omega) (by omega) (a_sub [0, 1, 2, 3, 4, 5, 6, 7] rfl jj61)
      · have e := ip c59 e
        refine a_iload C dX11_numbersFor_65 6 rfl ?_
        refine a_iconst (v := (1 : Int32)) C dX11_numbersFor_67 (by decide) ?_
        refine a_iload C dX11_numbersFor_68 7 rfl ?_
        refine a_ishl C dX11_numbersFor_70 ?_
        refine a_ior C dX11_numbersFor_71 ?_
        refine a_istore (lv2 := [(6, .int (x6 ||| ((1 : Int32) <<< (x7 &&& 31)))), (0, .ref (lo + x0)), (1, .int x1), (2, .ref (lo + x2)), (3, .int x3), (4, .int x4), (5, .int x5), (7, .int x7)]) C dX11_numbersFor_72 (by decide) rfl ?_
        obtain rfl := sp1 e
        exact a_widen (by omega) (by omega) (a_sub [1, 2, 3, 4, 5, 6, 0, 7] rfl jj61)
set_option maxRecDepth 100000 in
set_option maxHeartbeats 4000000 in
theorem k_X11_numbersFor {lo : Nat} {h : Hp} {x0 : Nat} {x1 : Int32} {x2 : Nat} {x3 : Int32} {x4 : Int32} {x5 : Int32} {r : Int32} {h' : Hp} (e : f_X11_numbersFor h x0 x1 x2 x3 x4 x5 = some (r, h')) : ∀ l d, AC l d lo yX11_numbersFor cX11_numbersFor 8 (some .int) ({ frames := 6, cells := 12, slots := 48, locals := 140 } : Room) [.ref (lo + x0), .int x1, .ref (lo + x2), .int x3, .int x4, .int x5] h (some (.int r)) h' := by
  intro l d
  refine AC_of (by decide) (Nat.le_of_ble_eq_true rfl) ?_
  intro G C _ _ q
  unfold f_X11_numbersFor at e
  show AW G lo 0 0 0 [(0, .ref (lo + x0)), (1, .int x1), (2, .ref (lo + x2)), (3, .int x3), (4, .int x4), (5, .int x5)] [] h
  refine a_iconst (v := (0 : Int32)) C dX11_numbersFor_0 (by decide) ?_
  refine a_istore (lv2 := [(6, .int (0 : Int32)), (0, .ref (lo + x0)), (1, .int x1), (2, .ref (lo + x2)), (3, .int x3), (4, .int x4), (5, .int x5)]) C dX11_numbersFor_1 (by decide) rfl ?_
  refine a_iconst (v := (0 : Int32)) C dX11_numbersFor_3 (by decide) ?_
  refine a_istore (lv2 := [(7, .int (0 : Int32)), (6, .int (0 : Int32)), (0, .ref (lo + x0)), (1, .int x1), (2, .ref (lo + x2)), (3, .int x3), (4, .int x4), (5, .int x5)]) C dX11_numbersFor_4 (by decide) rfl ?_
  refine a_sub [2, 3, 4, 5, 6, 7, 1, 0] rfl (w_X11_numbersFor_L6 (cx := 12) (sx := 48) C (Nat.le_of_ble_eq_true rfl) (Nat.le_of_ble_eq_true rfl) ?_ 12 _ _ _ _ _ (Nat.le_of_ble_eq_true rfl) (Nat.le_of_ble_eq_true rfl) e)
  intro h63 y64 y65 e
  show AW G lo 12 48 80 [(0, .ref (lo + x0)), (1, .int x1), (2, .ref (lo + x2)), (3, .int x3), (4, .int x4), (5, .int x5), (6, .int y64), (7, .int y65)] [] h63
  refine a_iload C dX11_numbersFor_80 6 rfl ?_
  obtain ⟨rfl, rfl⟩ := sp2 e
  exact a_iret C q (Nat.le_of_ble_eq_true rfl) (Nat.le_of_ble_eq_true rfl) dX11_numbersFor_82

set_option maxRecDepth 100000 in
def f_X11_keysFor_L6 (k : Int32 → Int32 → Hp → Option (Int32 × Hp)) (x0 : Nat) (x1 : Int32) (x2 : Nat) (x3 : Int32) (x4 : Int32) (x5 : Int32) : Nat → Hp → Int32 → Int32 → Option (Int32 × Hp)
  | 0, _, _, _ => none
  | fuel + 1, h, x6, x7 => (if (63 : Int32) < x7 then k x6 x7 h else bA (gN h x0 10 6) fun a3 => bA (gN h x0 10 3) fun a5 => bA (isC h a3 2) fun u12 => bA (f_X3_become h a3 a5) fun h6 => bA (gN h6 x0 10 6) fun a16 => bA (pV h6 a16 2 7 (.inl x7)) fun h18 => bA (gN h18 x0 10 5) fun a20 => bA (isC h18 a20 9) fun u27 => bA (f_X10_go h18 a20 x2 x3 x4) fun h21 => bA (gN h21 x0 10 5) fun a31 => bA (isC h21 a31 9) fun u38 => b2 (f_X10_outcome h21 a31 ) fun r34 h32 => (if r34 = x5 then (if x1 = 0 then f_X11_keysFor_L6 k x0 x1 x2 x3 x4 x5 fuel h32 (x6 + (1 : Int32)) (x7 + (1 : Int32)) else some (x7, h32)) else f_X11_keysFor_L6 k x0 x1 x2 x3 x4 x5 fuel h32 x6 (x7 + (1 : Int32))))

set_option maxRecDepth 100000 in
def f_X11_keysFor (h : Hp) (x0 : Nat) (x1 : Int32) (x2 : Nat) (x3 : Int32) (x4 : Int32) (x5 : Int32) : Option (Int32 × Hp) := f_X11_keysFor_L6 (fun y44 y45 h43 => bA (if x1 = 0 then some y44 else some (-1000000 : Int32)) fun j47 => some (j47, h43)) x0 x1 x2 x3 x4 x5 2000 h (0 : Int32) (0 : Int32)

theorem m_X11_keysFor : MI yX11_keysFor cX11_keysFor 8 (some .int) 5 := ⟨co_X11_keysFor, ini_X11, by decide, by decide +kernel⟩
set_option maxRecDepth 100000 in
set_option maxHeartbeats 4000000 in
theorem w_X11_keysFor_L6 {G : Gm} {lo : Nat} {ce sl : Nat} (C : CX G lo cX11_keysFor RX11 (some .int) ({ frames := 4, cells := 0, slots := 0, locals := 102 } : Room) 8) {r : Int32} {h' : Hp} {k : Int32 → Int32 → Hp → Option (Int32 × Hp)} {x0 : Nat} {x1 : Int32} {x2 : Nat} {x3 : Int32} {x4 : Int32} {x5 : Int32} (q : RQ G lo (some (.int r)) h' 0 0) (hk : ∀ (h : Hp) (x6 : Int32) (x7 : Int32), k x6 x7 h = some (r, h') → AW G lo ce sl 72 [(0, .ref (lo + x0)), (1, .int x1), (2, .ref (lo + x2)), (3, .int x3), (4, .int x4), (5, .int x5), (6, .int x6), (7, .int x7)] [] h) (hce : ce ≤ 0) (hsl : sl ≤ 0) : ∀ (fuel : Nat) (h : Hp) (x6 : Int32) (x7 : Int32), f_X11_keysFor_L6 k x0 x1 x2 x3 x4 x5 fuel h x6 x7 = some (r, h') → AW G lo ce sl 6 [(0, .ref (lo + x0)), (1, .int x1), (2, .ref (lo + x2)), (3, .int x3), (4, .int x4), (5, .int x5), (6, .int x6), (7, .int x7)] [] h := by
  intro fuel
  induction fuel with
  | zero =>
    intro h x6 x7 e
    cases (show (none : Option (Int32 × Hp)) = some (r, h') from e)
  | succ fuel ih =>
    intro h x6 x7 e
    rw [f_X11_keysFor_L6] at e
    refine a_iload C dX11_keysFor_6 7 rfl ?_
    refine a_bipush (v := (63 : Int32)) C dX11_keysFor_8 (by decide) ?_
    refine a_icmp_gt (tgt := 72) C dX11_keysFor_10 (by decide) (fun c1 => ?_) (fun c1 => ?_)
    · have e := ip c1 e
      exact a_sub [0, 1, 2, 3, 4, 5, 6, 7] rfl (hk _ _ _ e)
    · have e := iN c1 e
      refine a_aload_n C dX11_keysFor_13 rfl 0 rfl ?_
      obtain ⟨a3, e2, e⟩ := bA_some e
      refine a_getN C cb10 6 (by decide) fl_X11_42 rfl dX11_keysFor_14 e2 ?_
      refine a_aload_n C dX11_keysFor_17 rfl 0 rfl ?_
      obtain ⟨a5, e4, e⟩ := bA_some e
      refine a_getN C cb10 3 (by decide) fl_X11_33 rfl dX11_keysFor_18 e4 ?_
      obtain ⟨u12, ec11, e⟩ := bA_some e
      obtain ⟨fs10, eo9⟩ := isC_some ec11
      obtain ⟨h6, e7, e⟩ := bA_some e
      refine a_callV (as := [.ref (lo + a5)]) (rest := []) C m_X3_become im_X3_become cb2 se_X3_X3_become_X3_become ml_X11_141 rfl (Nat.le_of_ble_eq_true rfl) (Nat.le_of_ble_eq_true rfl) (by exact hce) (by exact hsl) (Nat.le_of_ble_eq_true rfl) dX11_keysFor_21 eo9 (k_X3_become e7) rfl ?_
      show AW G lo ce sl 24 [(0, .ref (lo + x0)), (1, .int x1), (2, .ref (lo + x2)), (3, .int x3), (4, .int x4), (5, .int x5), (6, .int x6), (7, .int x7)] [] h6
      refine a_aload_n C dX11_keysFor_24 rfl 0 rfl ?_
      obtain ⟨a16, e15, e⟩ := bA_some e
      refine a_getN C cb10 6 (by decide) fl_X11_42 rfl dX11_keysFor_25 e15 ?_
      refine a_iload C dX11_keysFor_28 7 rfl ?_
      obtain ⟨h18, e17, e⟩ := bA_some e
      refine a_putI C cb2 7 (by decide) fl_X11_204 rfl (by decide +kernel) dX11_keysFor_30 e17 ?_
      refine a_aload_n C dX11_keysFor_33 rfl 0 rfl ?_
      obtain ⟨a20, e19, e⟩ := bA_some e
      refine a_getN C cb10 5 (by decide) fl_X11_39 rfl dX11_keysFor_34 e19 ?_
      refine a_aload_n C dX11_keysFor_37 rfl 2 rfl ?_
      refine a_iload_n C dX11_keysFor_38 rfl 3 rfl ?_
      refine a_iload C dX11_keysFor_39 4 rfl ?_
      obtain ⟨u27, ec26, e⟩ := bA_some e
      obtain ⟨fs25, eo24⟩ := isC_some ec26
      obtain ⟨h21, e22, e⟩ := bA_some e
      refine a_callV (as := [.ref (lo + x2), .int x3, .int x4]) (rest := []) C m_X10_go im_X10_go cb9 se_X10_X10_go_X10_go ml_X11_174 rfl (Nat.le_of_ble_eq_true rfl) (Nat.le_of_ble_eq_true rfl) (by exact hce) (by exact hsl) (Nat.le_of_ble_eq_true rfl) dX11_keysFor_41 eo24 (k_X10_go e22) rfl ?_
      show AW G lo ce sl 44 [(0, .ref (lo + x0)), (1, .int x1), (2, .ref (lo + x2)), (3, .int x3), (4, .int x4), (5, .int x5), (6, .int x6), (7, .int x7)] [] h21
      refine a_aload_n C dX11_keysFor_44 rfl 0 rfl ?_
      obtain ⟨a31, e30, e⟩ := bA_some e
      refine a_getN C cb10 5 (by decide) fl_X11_39 rfl dX11_keysFor_45 e30 ?_
      obtain ⟨u38, ec37, e⟩ := bA_some e
      obtain ⟨fs36, eo35⟩ := isC_some ec37
      obtain ⟨r34, h32, e33, e⟩ := b2_some e
      refine a_callV (as := []) (rest := []) C m_X10_outcome im_X10_outcome cb9 se_X10_X10_outcome_X10_outcome ml_X11_240 rfl (Nat.le_of_ble_eq_true rfl) (Nat.le_of_ble_eq_true rfl) (by exact hce) (by exact hsl) (Nat.le_of_ble_eq_true rfl) dX11_keysFor_48 eo35 (k_X10_outcome e33) rfl ?_
      show AW G lo ce sl 51 [(0, .ref (lo + x0)), (1, .int x1), (2, .ref (lo + x2)), (3, .int x3), (4, .int x4), (5, .int x5), (6, .int x6), (7, .int x7)] [.int r34] h32
      refine a_iload C dX11_keysFor_51 5 rfl ?_
      refine a_icmp_ne (tgt := 66) C dX11_keysFor_53 (by decide) (fun c41 => ?_) (fun c41 => ?_)
      · have e := iN c41 e
        refine a_iinc (v := x7 + (1 : Int32)) (lv2 := [(7, .int (x7 + (1 : Int32))), (0, .ref (lo + x0)), (1, .int x1), (2, .ref (lo + x2)), (3, .int x3), (4, .int x4), (5, .int x5), (6, .int x6)]) C dX11_keysFor_66 7 rfl rfl (by decide) rfl ?_
        refine a_goto (tgt := 6) C dX11_keysFor_69 (by decide) ?_
        exact a_sub [1, 2, 3, 4, 5, 6, 7, 0] rfl (ih _ _ _ e)
      · have e := ip c41 e
        refine a_iload_n C dX11_keysFor_56 rfl 1 rfl ?_
        refine a_if_eq (tgt := 63) C dX11_keysFor_57 (by decide) (fun c42 => ?_) (fun c42 => ?_)
        · have e := ip c42 e
          refine a_iinc (v := x6 + (1 : Int32)) (lv2 := [(6, .int (x6 + (1 : Int32))), (0, .ref (lo + x0)), (1, .int x1), (2, .ref (lo + x2)), (3, .int x3), (4, .int x4), (5, .int x5), (7, .int x7)]) C dX11_keysFor_63 6 rfl rfl (by decide) rfl ?_
          refine a_iinc (v := x7 + (1 : Int32)) (lv2 := [(7, .int (x7 + (1 : Int32))), (6, .int (x6 + (1 : Int32))), (0, .ref (lo + x0)), (1, .int x1), (2, .ref (lo + x2)), (3, .int x3), (4, .int x4), (5, .int x5)]) C dX11_keysFor_66 7 rfl rfl (by decide) rfl ?_
          refine a_goto (tgt := 6) C dX11_keysFor_69 (by decide) ?_
          exact a_sub [2, 3, 4, 5, 6, 7, 1, 0] rfl (ih _ _ _ e)
        · have e := iN c42 e
          refine a_iload C dX11_keysFor_60 7 rfl ?_
          obtain ⟨rfl, rfl⟩ := sp2 e
          exact a_iret C q (by exact hce) (by exact hsl) dX11_keysFor_62
set_option maxRecDepth 100000 in
set_option maxHeartbeats 4000000 in
theorem k_X11_keysFor {lo : Nat} {h : Hp} {x0 : Nat} {x1 : Int32} {x2 : Nat} {x3 : Int32} {x4 : Int32} {x5 : Int32} {r : Int32} {h' : Hp} (e : f_X11_keysFor h x0 x1 x2 x3 x4 x5 = some (r, h')) : ∀ l d, AC l d lo yX11_keysFor cX11_keysFor 8 (some .int) ({ frames := 4, cells := 0, slots := 0, locals := 102 } : Room) [.ref (lo + x0), .int x1, .ref (lo + x2), .int x3, .int x4, .int x5] h (some (.int r)) h' := by
  intro l d
  refine AC_of (by decide) (Nat.le_of_ble_eq_true rfl) ?_
  intro G C _ _ q
  unfold f_X11_keysFor at e
  show AW G lo 0 0 0 [(0, .ref (lo + x0)), (1, .int x1), (2, .ref (lo + x2)), (3, .int x3), (4, .int x4), (5, .int x5)] [] h
  refine a_iconst (v := (0 : Int32)) C dX11_keysFor_0 (by decide) ?_
  refine a_istore (lv2 := [(6, .int (0 : Int32)), (0, .ref (lo + x0)), (1, .int x1), (2, .ref (lo + x2)), (3, .int x3), (4, .int x4), (5, .int x5)]) C dX11_keysFor_1 (by decide) rfl ?_
  refine a_iconst (v := (0 : Int32)) C dX11_keysFor_3 (by decide) ?_
  refine a_istore (lv2 := [(7, .int (0 : Int32)), (6, .int (0 : Int32)), (0, .ref (lo + x0)), (1, .int x1), (2, .ref (lo + x2)), (3, .int x3), (4, .int x4), (5, .int x5)]) C dX11_keysFor_4 (by decide) rfl ?_
  refine a_sub [2, 3, 4, 5, 6, 7, 1, 0] rfl (w_X11_keysFor_L6 C q ?_ (Nat.le_of_ble_eq_true rfl) (Nat.le_of_ble_eq_true rfl) 2000 _ _ _ e)
  intro h43 y44 y45 e
  show AW G lo 0 0 72 [(0, .ref (lo + x0)), (1, .int x1), (2, .ref (lo + x2)), (3, .int x3), (4, .int x4), (5, .int x5), (6, .int y44), (7, .int y45)] [] h43
  refine a_iload_n C dX11_keysFor_72 rfl 1 rfl ?_
  obtain ⟨j47, eb49, e⟩ := bA_some e
  have jj48 : AW G lo 0 0 84 [(0, .ref (lo + x0)), (1, .int x1), (2, .ref (lo + x2)), (3, .int x3), (4, .int x4), (5, .int x5), (6, .int y44), (7, .int y45)] [.int j47] h43 := by
    obtain ⟨rfl, rfl⟩ := sp2 e
    exact a_iret C q (Nat.le_of_ble_eq_true rfl) (Nat.le_of_ble_eq_true rfl) dX11_keysFor_84
  have e := eb49
  refine a_if_eq (tgt := 82) C dX11_keysFor_73 (by decide) (fun c46 => ?_) (fun c46 => ?_)
  · have e := ip c46 e
    refine a_iload C dX11_keysFor_82 6 rfl ?_
    obtain rfl := sp1 e
    exact a_widen (Nat.le_of_ble_eq_true rfl) (Nat.le_of_ble_eq_true rfl) (a_sub [0, 1, 2, 3, 4, 5, 6, 7] rfl jj48)
  · have e := iN c46 e
    refine a_ldc_w C ko_X11_259 dX11_keysFor_76 ?_
    refine a_goto (tgt := 84) C dX11_keysFor_79 (by decide) ?_
    obtain rfl := sp1 e
    exact a_widen (Nat.le_of_ble_eq_true rfl) (Nat.le_of_ble_eq_true rfl) (a_sub [0, 1, 2, 3, 4, 5, 6, 7] rfl jj48)

set_option maxRecDepth 100000 in
def f_X11_goDrawn (h : Hp) (x0 : Nat) (x1 : Int64) : Option (Hp) := bA (gN h x0 10 6) fun a2 => bA (gI h a2 2 3) fun g4 => bA (gN h x0 10 6) fun a6 => bA (gI h a6 2 4) fun g8 => (if g4 = 0 then some h else (if g8 = 0 then some h else bA (nzL g4.toInt64) fun u12 => bA (if (lg_cmp (x1 - x1 / (3 : Int64) * (3 : Int64)) (0 : Int64)) = 0 then bA (gN h x0 10 6) fun a18 => bA (isC h a18 2) fun u25 => b2 (f_X3_lacksRoom h a18 ((x1 - x1 / g4.toInt64 * g4.toInt64).toInt32)) fun r21 h19 => (if r21 = 0 then bA (gN h19 x0 10 6) fun a30 => bA (gN h19 a30 2 0) fun a32 => bA (ald h19 a32 0 ((x1 - x1 / g4.toInt64 * g4.toInt64).toInt32)) fun v33 => (if v33 = 0 then bA (gN h19 x0 10 6) fun a37 => bA (gN h19 a37 2 0) fun a39 => bA (ast h19 a39 0 ((x1 - x1 / g4.toInt64 * g4.toInt64).toInt32) (5 : Int32)) fun h40 => some h40 else some h19) else some h19) else some h) fun h14 => bA (gN h14 x0 10 11) fun a43 => bA (nzL g8.toInt64) fun u45 => bA (ast h14 a43 0 (0 : Int32) (((x1 / (8 : Int64)) - (x1 / (8 : Int64)) / g8.toInt64 * g8.toInt64).toInt32)) fun h46 => bA (gN h46 x0 10 11) fun a49 => bA (nzL g8.toInt64) fun u51 => bA (ast h46 a49 0 (1 : Int32) (((x1 / (64 : Int64)) - (x1 / (64 : Int64)) / g8.toInt64 * g8.toInt64).toInt32)) fun h52 => bA (gN h52 x0 10 5) fun a55 => bA (gN h52 x0 10 11) fun a57 => bA (isC h52 a55 9) fun u64 => bA (f_X10_go h52 a55 a57 (0 : Int32) (2 : Int32)) fun h58 => some h58))

theorem m_X11_goDrawn : MI yX11_goDrawn cX11_goDrawn 6 none 1 := ⟨co_X11_goDrawn, ini_X11, by decide, by decide +kernel⟩
set_option maxRecDepth 100000 in
set_option maxHeartbeats 4000000 in
theorem k_X11_goDrawn {lo : Nat} {h : Hp} {x0 : Nat} {x1 : Int64} {h' : Hp} (e : f_X11_goDrawn h x0 x1 = some h') : ∀ l d, AC l d lo yX11_goDrawn cX11_goDrawn 6 none ({ frames := 4, cells := 0, slots := 0, locals := 95 } : Room) [.ref (lo + x0), .long x1] h none h' := by
  intro l d
  refine AC_of (by decide) (Nat.le_of_ble_eq_true rfl) ?_
  intro G C _ _ q
  unfold f_X11_goDrawn at e
  show AW G lo 0 0 0 [(0, .ref (lo + x0)), (1, .long x1)] [] h
  refine a_aload_n C dX11_goDrawn_0 rfl 0 rfl ?_
  obtain ⟨a2, e1, e⟩ := bA_some e
  refine a_getN C cb10 6 (by decide) fl_X11_42 rfl dX11_goDrawn_1 e1 ?_
  obtain ⟨g4, e3, e⟩ := bA_some e
  refine a_getI C cb2 3 (by decide) fl_X11_279 rfl dX11_goDrawn_4 e3 ?_
  refine a_istore_n (lv2 := [(3, .int g4), (0, .ref (lo + x0)), (1, .long x1)]) C dX11_goDrawn_7 rfl (by decide) rfl ?_
  refine a_aload_n C dX11_goDrawn_8 rfl 1 rfl ?_
  obtain ⟨a6, e5, e⟩ := bA_some e
  refine a_getN C cb10 6 (by decide) fl_X11_42 rfl dX11_goDrawn_9 e5 ?_
  obtain ⟨g8, e7, e⟩ := bA_some e
  refine a_getI C cb2 4 (by decide) fl_X11_151 rfl dX11_goDrawn_12 e7 ?_
  refine a_istore (lv2 := [(4, .int g8), (3, .int g4), (0, .ref (lo + x0)), (1, .long x1)]) C dX11_goDrawn_15 (by decide) rfl ?_
  refine a_iload_n C dX11_goDrawn_17 rfl 1 rfl ?_
  refine a_if_eq (tgt := 26) C dX11_goDrawn_18 (by decide) (fun c9 => ?_) (fun c9 => ?_)
  · have e := ip c9 e
    obtain rfl := sp1 e
    exact a_vret C q (Nat.le_of_ble_eq_true rfl) (Nat.le_of_ble_eq_true rfl) dX11_goDrawn_26
  · have e := iN c9 e
    refine a_iload C dX11_goDrawn_21 0 rfl ?_
    refine a_if_ne (tgt := 27) C dX11_goDrawn_23 (by decide) (fun c10 => ?_) (fun c10 => ?_)
    · have e := iN c10 e
      refine a_lload_n C dX11_goDrawn_27 rfl 3 rfl ?_
      refine a_iload_n C dX11_goDrawn_28 rfl 1 rfl ?_
      refine a_i2l C dX11_goDrawn_29 ?_
      obtain ⟨u12, ez11, e⟩ := bA_some e
      refine a_lrem C dX11_goDrawn_30 (nzL_some ez11) ?_
      refine a_l2i C dX11_goDrawn_31 ?_
      refine a_istore (lv2 := [(5, .int ((x1 - x1 / g4.toInt64 * g4.toInt64).toInt32)), (4, .int g8), (3, .int g4), (0, .ref (lo + x0)), (1, .long x1)]) C dX11_goDrawn_32 (by decide) rfl ?_
      refine a_lload_n C dX11_goDrawn_34 rfl 4 rfl ?_
      refine a_ldc2 C kL_X11_369 dX11_goDrawn_35 ?_
      refine a_lrem C dX11_goDrawn_38 (by decide) ?_
      refine a_lconst (v := (0 : Int64)) C dX11_goDrawn_39 (by decide) ?_
      refine a_lcmp C dX11_goDrawn_40 ?_
      obtain ⟨h14, eb16, e⟩ := bA_some e
      have jj15 : AW G lo 0 0 80 [(0, .ref (lo + x0)), (1, .long x1), (3, .int g4), (4, .int g8), (5, .int ((x1 - x1 / g4.toInt64 * g4.toInt64).toInt32))] [] h14 := by
        refine a_aload_n C dX11_goDrawn_80 rfl 0 rfl ?_
        obtain ⟨a43, e42, e⟩ := bA_some e
        refine a_getN C cb10 11 (by decide) fl_X11_65 rfl dX11_goDrawn_81 e42 ?_
        refine a_iconst (v := (0 : Int32)) C dX11_goDrawn_84 (by decide) ?_
        refine a_lload_n C dX11_goDrawn_85 rfl 1 rfl ?_
        refine a_ldc2 C kL_X11_371 dX11_goDrawn_86 ?_
        refine a_ldiv C dX11_goDrawn_89 (by decide) ?_
        refine a_iload C dX11_goDrawn_90 3 rfl ?_
        refine a_i2l C dX11_goDrawn_92 ?_
        obtain ⟨u45, ez44, e⟩ := bA_some e
        refine a_lrem C dX11_goDrawn_93 (nzL_some ez44) ?_
        refine a_l2i C dX11_goDrawn_94 ?_
        obtain ⟨h46, e47, e⟩ := bA_some e
        refine a_iast C dX11_goDrawn_95 e47 ?_
        refine a_aload_n C dX11_goDrawn_96 rfl 0 rfl ?_
        obtain ⟨a49, e48, e⟩ := bA_some e
        refine a_getN C cb10 11 (by decide) fl_X11_65 rfl dX11_goDrawn_97 e48 ?_
        refine a_iconst (v := (1 : Int32)) C dX11_goDrawn_100 (by decide) ?_
        refine a_lload_n C dX11_goDrawn_101 rfl 1 rfl ?_
        refine a_ldc2 C kL_X11_373 dX11_goDrawn_102 ?_
        refine a_ldiv C dX11_goDrawn_105 (by decide) ?_
        refine a_iload C dX11_goDrawn_106 3 rfl ?_
        refine a_i2l C dX11_goDrawn_108 ?_
        obtain ⟨u51, ez50, e⟩ := bA_some e
        refine a_lrem C dX11_goDrawn_109 (nzL_some ez50) ?_
        refine a_l2i C dX11_goDrawn_110 ?_
        obtain ⟨h52, e53, e⟩ := bA_some e
        refine a_iast C dX11_goDrawn_111 e53 ?_
        refine a_aload_n C dX11_goDrawn_112 rfl 0 rfl ?_
        obtain ⟨a55, e54, e⟩ := bA_some e
        refine a_getN C cb10 5 (by decide) fl_X11_39 rfl dX11_goDrawn_113 e54 ?_
        refine a_aload_n C dX11_goDrawn_116 rfl 0 rfl ?_
        obtain ⟨a57, e56, e⟩ := bA_some e
        refine a_getN C cb10 11 (by decide) fl_X11_65 rfl dX11_goDrawn_117 e56 ?_
        refine a_iconst (v := (0 : Int32)) C dX11_goDrawn_120 (by decide) ?_
        refine a_iconst (v := (2 : Int32)) C dX11_goDrawn_121 (by decide) ?_
        obtain ⟨u64, ec63, e⟩ := bA_some e
        obtain ⟨fs62, eo61⟩ := isC_some ec63
        obtain ⟨h58, e59, e⟩ := bA_some e
        refine a_callV (as := [.ref (lo + a57), .int (0 : Int32), .int (2 : Int32)]) (rest := []) C m_X10_go im_X10_go cb9 se_X10_X10_go_X10_go ml_X11_174 rfl (Nat.le_of_ble_eq_true rfl) (Nat.le_of_ble_eq_true rfl) (Nat.le_of_ble_eq_true rfl) (Nat.le_of_ble_eq_true rfl) (Nat.le_of_ble_eq_true rfl) dX11_goDrawn_122 eo61 (k_X10_go e59) rfl ?_
        show AW G lo 0 0 125 [(0, .ref (lo + x0)), (1, .long x1), (3, .int g4), (4, .int g8), (5, .int ((x1 - x1 / g4.toInt64 * g4.toInt64).toInt32))] [] h58
        obtain rfl := sp1 e
        exact a_vret C q (Nat.le_of_ble_eq_true rfl) (Nat.le_of_ble_eq_true rfl) dX11_goDrawn_125
      have e := eb16
      refine a_if_ne (tgt := 80) C dX11_goDrawn_41 (by decide) (fun c13 => ?_) (fun c13 => ?_)
      · have e := iN c13 e
        obtain rfl := sp1 e
        exact a_widen (Nat.le_of_ble_eq_true rfl) (Nat.le_of_ble_eq_true rfl) (a_sub [3, 4, 2, 1, 0] rfl jj15)
      · have e := ip c13 e
        refine a_aload_n C dX11_goDrawn_44 rfl 3 rfl ?_
        obtain ⟨a18, e17, e⟩ := bA_some e
        refine a_getN C cb10 6 (by decide) fl_X11_42 rfl dX11_goDrawn_45 e17 ?_
        refine a_iload C dX11_goDrawn_48 0 rfl ?_
        obtain ⟨u25, ec24, e⟩ := bA_some e
        obtain ⟨fs23, eo22⟩ := isC_some ec24
        obtain ⟨r21, h19, e20, e⟩ := b2_some e
        refine a_callV (as := [.int ((x1 - x1 / g4.toInt64 * g4.toInt64).toInt32)]) (rest := []) C m_X3_lacksRoom im_X3_lacksRoom cb2 se_X3_X3_lacksRoom_X3_lacksRoom ml_X11_192 rfl (Nat.le_of_ble_eq_true rfl) (Nat.le_of_ble_eq_true rfl) (Nat.le_of_ble_eq_true rfl) (Nat.le_of_ble_eq_true rfl) (Nat.le_of_ble_eq_true rfl) dX11_goDrawn_50 eo22 (k_X3_lacksRoom e20) rfl ?_
        show AW G lo 0 0 53 [(5, .int ((x1 - x1 / g4.toInt64 * g4.toInt64).toInt32)), (4, .int g8), (3, .int g4), (0, .ref (lo + x0)), (1, .long x1)] [.int r21] h19
        refine a_if_ne (tgt := 80) C dX11_goDrawn_53 (by decide) (fun c28 => ?_) (fun c28 => ?_)
        · have e := iN c28 e
          obtain rfl := sp1 e
          exact a_widen (Nat.le_of_ble_eq_true rfl) (Nat.le_of_ble_eq_true rfl) (a_sub [3, 4, 2, 1, 0] rfl jj15)
        · have e := ip c28 e
          refine a_aload_n C dX11_goDrawn_56 rfl 3 rfl ?_
          obtain ⟨a30, e29, e⟩ := bA_some e
          refine a_getN C cb10 6 (by decide) fl_X11_42 rfl dX11_goDrawn_57 e29 ?_
          obtain ⟨a32, e31, e⟩ := bA_some e
          refine a_getN C cb2 0 (by decide) fl_X11_195 rfl dX11_goDrawn_60 e31 ?_
          refine a_iload C dX11_goDrawn_63 0 rfl ?_
          obtain ⟨v33, e34, e⟩ := bA_some e
          refine a_iald C dX11_goDrawn_65 e34 ?_
          refine a_if_ne (tgt := 80) C dX11_goDrawn_66 (by decide) (fun c35 => ?_) (fun c35 => ?_)
          · have e := iN c35 e
            obtain rfl := sp1 e
            exact a_widen (Nat.le_of_ble_eq_true rfl) (Nat.le_of_ble_eq_true rfl) (a_sub [3, 4, 2, 1, 0] rfl jj15)
          · have e := ip c35 e
            refine a_aload_n C dX11_goDrawn_69 rfl 3 rfl ?_
            obtain ⟨a37, e36, e⟩ := bA_some e
            refine a_getN C cb10 6 (by decide) fl_X11_42 rfl dX11_goDrawn_70 e36 ?_
            obtain ⟨a39, e38, e⟩ := bA_some e
            refine a_getN C cb2 0 (by decide) fl_X11_195 rfl dX11_goDrawn_73 e38 ?_
            refine a_iload C dX11_goDrawn_76 0 rfl ?_
            refine a_iconst (v := (5 : Int32)) C dX11_goDrawn_78 (by decide) ?_
            obtain ⟨h40, e41, e⟩ := bA_some e
            refine a_iast C dX11_goDrawn_79 e41 ?_
            obtain rfl := sp1 e
            exact a_widen (Nat.le_of_ble_eq_true rfl) (Nat.le_of_ble_eq_true rfl) (a_sub [3, 4, 2, 1, 0] rfl jj15)
    · have e := ip c10 e
      obtain rfl := sp1 e
      exact a_vret C q (Nat.le_of_ble_eq_true rfl) (Nat.le_of_ble_eq_true rfl) dX11_goDrawn_26

set_option maxRecDepth 100000 in
def f_X11_commonDivisor_L7 {β : Type} (k : Int32 → Int32 → Int32 → Hp → Option (β)) (x0 : Int32) (x1 : Int32) : Nat → Hp → Int32 → Int32 → Int32 → Option (β)
  | 0, _, _, _, _ => none
  | fuel + 1, h, x2, x3, x4 => (if (64 : Int32) ≤ x4 then k x2 x3 x4 h else (if x3 = 0 then k x2 x3 x4 h else bA (nzI x3) fun u4 => f_X11_commonDivisor_L7 k x0 x1 fuel h x3 (x2 - x2 / x3 * x3) (x4 + (1 : Int32))))

set_option maxRecDepth 100000 in
def f_X11_commonDivisor (h : Hp) (x0 : Int32) (x1 : Int32) : Option (Int32 × Hp) := f_X11_commonDivisor_L7 (fun y6 y7 y8 h5 => some (y6, h5)) x0 x1 2000 h x1 x0 (0 : Int32)

theorem m_X11_commonDivisor : MI yX11_commonDivisor cX11_commonDivisor 6 (some .int) 2 := ⟨co_X11_commonDivisor, ini_X11, by decide, by decide +kernel⟩
set_option maxRecDepth 100000 in
set_option maxHeartbeats 4000000 in
theorem w_X11_commonDivisor_L7 {G : Gm} {lo : Nat} {ce sl : Nat} (C : CX G lo cX11_commonDivisor RX11 (some .int) ({ frames := 0, cells := 0, slots := 0, locals := 0 } : Room) 6) {β : Type} {res : β} {k : Int32 → Int32 → Int32 → Hp → Option (β)} {x0 : Int32} {x1 : Int32} (hk : ∀ (h : Hp) (x2 : Int32) (x3 : Int32) (x4 : Int32), k x2 x3 x4 h = some res → AW G lo ce sl 34 [(0, .int x0), (1, .int x1), (2, .int x2), (3, .int x3), (4, .int x4)] [] h) (hce : ce ≤ 0) (hsl : sl ≤ 0) : ∀ (fuel : Nat) (h : Hp) (x2 : Int32) (x3 : Int32) (x4 : Int32), f_X11_commonDivisor_L7 k x0 x1 fuel h x2 x3 x4 = some res → AW G lo ce sl 7 [(0, .int x0), (1, .int x1), (2, .int x2), (3, .int x3), (4, .int x4)] [] h := by
  intro fuel
  induction fuel with
  | zero =>
    intro h x2 x3 x4 e
    cases (show (none : Option (β)) = some res from e)
  | succ fuel ih =>
    intro h x2 x3 x4 e
    rw [f_X11_commonDivisor_L7] at e
    refine a_iload C dX11_commonDivisor_7 4 rfl ?_
    refine a_bipush (v := (64 : Int32)) C dX11_commonDivisor_9 (by decide) ?_
    refine a_icmp_ge (tgt := 34) C dX11_commonDivisor_11 (by decide) (fun c1 => ?_) (fun c1 => ?_)
    · have e := ip c1 e
      exact a_sub [0, 1, 2, 3, 4] rfl (hk _ _ _ _ e)
    · have e := iN c1 e
      refine a_iload_n C dX11_commonDivisor_14 rfl 3 rfl ?_
      refine a_if_eq (tgt := 34) C dX11_commonDivisor_15 (by decide) (fun c2 => ?_) (fun c2 => ?_)
      · have e := ip c2 e
        exact a_sub [0, 1, 2, 3, 4] rfl (hk _ _ _ _ e)
      · have e := iN c2 e
        refine a_iload_n C dX11_commonDivisor_18 rfl 2 rfl ?_
        refine a_iload_n C dX11_commonDivisor_19 rfl 3 rfl ?_
        obtain ⟨u4, ez3, e⟩ := bA_some e
        refine a_irem C dX11_commonDivisor_20 (nzI_some ez3) ?_
        refine a_istore (lv2 := [(5, .int (x2 - x2 / x3 * x3)), (0, .int x0), (1, .int x1), (2, .int x2), (3, .int x3), (4, .int x4)]) C dX11_commonDivisor_21 (by decide) rfl ?_
        refine a_iload_n C dX11_commonDivisor_23 rfl 4 rfl ?_
        refine a_istore_n (lv2 := [(2, .int x3), (5, .int (x2 - x2 / x3 * x3)), (0, .int x0), (1, .int x1), (3, .int x3), (4, .int x4)]) C dX11_commonDivisor_24 rfl (by decide) rfl ?_
        refine a_iload C dX11_commonDivisor_25 1 rfl ?_
        refine a_istore_n (lv2 := [(3, .int (x2 - x2 / x3 * x3)), (2, .int x3), (5, .int (x2 - x2 / x3 * x3)), (0, .int x0), (1, .int x1), (4, .int x4)]) C dX11_commonDivisor_27 rfl (by decide) rfl ?_
        refine a_iinc (v := x4 + (1 : Int32)) (lv2 := [(4, .int (x4 + (1 : Int32))), (3, .int (x2 - x2 / x3 * x3)), (2, .int x3), (5, .int (x2 - x2 / x3 * x3)), (0, .int x0), (1, .int x1)]) C dX11_commonDivisor_28 5 rfl rfl (by decide) rfl ?_
        refine a_goto (tgt := 7) C dX11_commonDivisor_31 (by decide) ?_
        exact a_sub [4, 5, 2, 1, 0] rfl (ih _ _ _ _ e)
set_option maxRecDepth 100000 in
set_option maxHeartbeats 4000000 in
theorem k_X11_commonDivisor {lo : Nat} {h : Hp} {x0 : Int32} {x1 : Int32} {r : Int32} {h' : Hp} (e : f_X11_commonDivisor h x0 x1 = some (r, h')) : ∀ l d, AC l d lo yX11_commonDivisor cX11_commonDivisor 6 (some .int) ({ frames := 0, cells := 0, slots := 0, locals := 0 } : Room) [.int x0, .int x1] h (some (.int r)) h' := by
  intro l d
  refine AC_of (by decide) (Nat.le_of_ble_eq_true rfl) ?_
  intro G C _ _ q
  unfold f_X11_commonDivisor at e
  show AW G lo 0 0 0 [(0, .int x0), (1, .int x1)] [] h
  refine a_iload_n C dX11_commonDivisor_0 rfl 1 rfl ?_
  refine a_istore_n (lv2 := [(2, .int x1), (0, .int x0), (1, .int x1)]) C dX11_commonDivisor_1 rfl (by decide) rfl ?_
  refine a_iload_n C dX11_commonDivisor_2 rfl 1 rfl ?_
  refine a_istore_n (lv2 := [(3, .int x0), (2, .int x1), (0, .int x0), (1, .int x1)]) C dX11_commonDivisor_3 rfl (by decide) rfl ?_
  refine a_iconst (v := (0 : Int32)) C dX11_commonDivisor_4 (by decide) ?_
  refine a_istore (lv2 := [(4, .int (0 : Int32)), (3, .int x0), (2, .int x1), (0, .int x0), (1, .int x1)]) C dX11_commonDivisor_5 (by decide) rfl ?_
  refine a_sub [3, 4, 2, 1, 0] rfl (w_X11_commonDivisor_L7 C ?_ (Nat.le_of_ble_eq_true rfl) (Nat.le_of_ble_eq_true rfl) 2000 _ _ _ _ e)
  intro h5 y6 y7 y8 e
  show AW G lo 0 0 34 [(0, .int x0), (1, .int x1), (2, .int y6), (3, .int y7), (4, .int y8)] [] h5
  refine a_iload_n C dX11_commonDivisor_34 rfl 2 rfl ?_
  obtain ⟨rfl, rfl⟩ := sp2 e
  exact a_iret C q (Nat.le_of_ble_eq_true rfl) (Nat.le_of_ble_eq_true rfl) dX11_commonDivisor_35

set_option maxRecDepth 100000 in
def f_X11_power_L5 {β : Type} (k : Int64 → Int32 → Hp → Option (β)) (x0 : Int32) (x1 : Int32) : Nat → Hp → Int64 → Int32 → Option (β)
  | 0, _, _, _ => none
  | fuel + 1, h, x2, x4 => (if x1 ≤ x4 then k x2 x4 h else f_X11_power_L5 k x0 x1 fuel h (x2 * x0.toInt64) (x4 + (1 : Int32)))

set_option maxRecDepth 100000 in
def f_X11_power (h : Hp) (x0 : Int32) (x1 : Int32) : Option (Int64 × Hp) := f_X11_power_L5 (fun y3 y4 h2 => some (y3, h2)) x0 x1 2000 h (1 : Int64) (0 : Int32)

theorem m_X11_power : MI yX11_power cX11_power 5 (some .long) 2 := ⟨co_X11_power, ini_X11, by decide, by decide +kernel⟩
set_option maxRecDepth 100000 in
set_option maxHeartbeats 4000000 in
theorem w_X11_power_L5 {G : Gm} {lo : Nat} {ce sl : Nat} (C : CX G lo cX11_power RX11 (some .long) ({ frames := 0, cells := 0, slots := 0, locals := 0 } : Room) 5) {β : Type} {res : β} {k : Int64 → Int32 → Hp → Option (β)} {x0 : Int32} {x1 : Int32} (hk : ∀ (h : Hp) (x2 : Int64) (x4 : Int32), k x2 x4 h = some res → AW G lo ce sl 22 [(0, .int x0), (1, .int x1), (2, .long x2), (4, .int x4)] [] h) (hce : ce ≤ 0) (hsl : sl ≤ 0) : ∀ (fuel : Nat) (h : Hp) (x2 : Int64) (x4 : Int32), f_X11_power_L5 k x0 x1 fuel h x2 x4 = some res → AW G lo ce sl 5 [(0, .int x0), (1, .int x1), (2, .long x2), (4, .int x4)] [] h := by
  intro fuel
  induction fuel with
  | zero =>
    intro h x2 x4 e
    cases (show (none : Option (β)) = some res from e)
  | succ fuel ih =>
    intro h x2 x4 e
    rw [f_X11_power_L5] at e
    refine a_iload C dX11_power_5 3 rfl ?_
    refine a_iload_n C dX11_power_7 rfl 1 rfl ?_
    refine a_icmp_ge (tgt := 22) C dX11_power_8 (by decide) (fun c1 => ?_) (fun c1 => ?_)
    · have e := ip c1 e
      exact a_sub [0, 1, 2, 3] rfl (hk _ _ _ e)
    · have e := iN c1 e
      refine a_lload_n C dX11_power_11 rfl 2 rfl ?_
      refine a_iload_n C dX11_power_12 rfl 0 rfl ?_
      refine a_i2l C dX11_power_13 ?_
      refine a_lmul C dX11_power_14 ?_
      refine a_lstore_n (lv2 := [(2, .long (x2 * x0.toInt64)), (0, .int x0), (1, .int x1), (4, .int x4)]) C dX11_power_15 rfl (by decide) rfl ?_
      refine a_iinc (v := x4 + (1 : Int32)) (lv2 := [(4, .int (x4 + (1 : Int32))), (2, .long (x2 * x0.toInt64)), (0, .int x0), (1, .int x1)]) C dX11_power_16 3 rfl rfl (by decide) rfl ?_
      refine a_goto (tgt := 5) C dX11_power_19 (by decide) ?_
      exact a_sub [2, 3, 1, 0] rfl (ih _ _ _ e)
set_option maxRecDepth 100000 in
set_option maxHeartbeats 4000000 in
theorem k_X11_power {lo : Nat} {h : Hp} {x0 : Int32} {x1 : Int32} {r : Int64} {h' : Hp} (e : f_X11_power h x0 x1 = some (r, h')) : ∀ l d, AC l d lo yX11_power cX11_power 5 (some .long) ({ frames := 0, cells := 0, slots := 0, locals := 0 } : Room) [.int x0, .int x1] h (some (.long r)) h' := by
  intro l d
  refine AC_of (by decide) (Nat.le_of_ble_eq_true rfl) ?_
  intro G C _ _ q
  unfold f_X11_power at e
  show AW G lo 0 0 0 [(0, .int x0), (1, .int x1)] [] h
  refine a_lconst (v := (1 : Int64)) C dX11_power_0 (by decide) ?_
  refine a_lstore_n (lv2 := [(2, .long (1 : Int64)), (0, .int x0), (1, .int x1)]) C dX11_power_1 rfl (by decide) rfl ?_
  refine a_iconst (v := (0 : Int32)) C dX11_power_2 (by decide) ?_
  refine a_istore (lv2 := [(4, .int (0 : Int32)), (2, .long (1 : Int64)), (0, .int x0), (1, .int x1)]) C dX11_power_3 (by decide) rfl ?_
  refine a_sub [2, 3, 1, 0] rfl (w_X11_power_L5 C ?_ (Nat.le_of_ble_eq_true rfl) (Nat.le_of_ble_eq_true rfl) 2000 _ _ _ e)
  intro h2 y3 y4 e
  show AW G lo 0 0 22 [(0, .int x0), (1, .int x1), (2, .long y3), (4, .int y4)] [] h2
  refine a_lload_n C dX11_power_22 rfl 2 rfl ?_
  obtain ⟨rfl, rfl⟩ := sp2 e
  exact a_lret C q (Nat.le_of_ble_eq_true rfl) (Nat.le_of_ble_eq_true rfl) dX11_power_23
