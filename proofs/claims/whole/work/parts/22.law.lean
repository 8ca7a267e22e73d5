/-! THE CLAIM OUT OF ONE WALK OF THE LAW'S BODY. Your part is whole_start (and what it stands on); all else here is the same for every law, but numbers. -/
def R_law : String := "DoorsBehindLaw"
def lw_P (b : Addr) (xs : List Int32) (args : Array Value) (s : State) : Prop := args = #[.ref b] ∧ s.IntsAt b xs ∧ xs.length ≤ 3584 ∧ (Jvm.Cond.and given_1 narrow_1).before args s = true
def lw_Q (_ : Array Value) (s : State) (o : Outcome) (t : State) : Prop := o = .returned (some (.int 1)) ∧ Framed s o t [] 600000 7302250
def lw_Z (below : List Frame) (a : Array Value) (s : State) : State → Prop := fun t => ∃ o, t.status = .running ∧ Ended t below o ∧ lw_Q a s o t
/-- the law's own end, with 1 on the stack, nothing written that was there before, its room as the claim has it -/
theorem lw_ret {p : Program} {l : Launch} {e : Env} {s : State} {m : MethodId} {below : List Frame} {meth : Method} {c : Code} {b : Nat} (hx : p.tables.exec = Jvm.exec) (hb : c.code = code) (hr : meth.sig.returnType = ret) (hlocks : meth.locks = false) {pc : Nat} {H : Heap} {ls : Array Slot} (hdg : decode code pc = .ok (.ireturn, 1)) : W p l e room_1 s m #[Value.ref b] below meth c H [] 600000 7302250 (lw_Z below #[Value.ref b] s) (F0 m pc ls [.int 1]) := by
  intro T hT X
  obtain ⟨fs, hret, hrun, hended, hW, hframe⟩ := X.leave (v := some (.int 1)) (hlocks := hlocks) (fun h => by rw [hr] at h; cases h)
  have hmeth' : T.vm.method? m = some meth := X.method'
  refine ⟨T.setFrames fs, ?_, .returned (some (.int 1)), hrun, hended, rfl, ⟨_, rfl⟩, hW, hframe⟩
  jvm_step X.here [X.here.top, hx, hb, hdg, hmeth', hr, ret, narrow_b1]
  (try refine ⟨rfl, ?_⟩); (try refine ⟨rfl, ?_⟩)
  first | (intro acts; rw [hret _ acts rfl rfl rfl]) | rw [hret _ _ rfl rfl rfl]
  exact Steps.refl _
/-- what holds at the law's entry: the machine, the code, the tables' words (any of lw_tbl by 'hts w (by decide +kernel)'), the script of L ints xs at the cell b, what the Statement gives of the start (any of its parts by flat_of_before) -/
def lw_At (p : Program) (s : State) (m : MethodId) (meth : Method) (c : Code) (b L : Nat) (xs : Nat → Int32) : Prop :=
  p.tables.exec = Jvm.exec ∧ c.code = code ∧ meth.sig.returnType = ret ∧ c.maxLocals = 4 ∧ s.vm.findClass R_law = some m.cls ∧ (∀ w ∈ lw_tbl, w.before #[Value.ref b] s = true) ∧ va_X b L xs s s.heap ∧ b < s.heap.size ∧ meth.locks = false ∧ (Jvm.Cond.and given_1 narrow_1).before #[Value.ref b] s = true
/-! THE LAW'S OWN ROWS -/
def SX (G : Gm) (lo b L : Nat) (xs : Nat → Int32) : Prop := match G with
  | (p, l, e, R, s, m, args, below, meth, c, Q, d, nL) => va_X b L xs s s.heap ∧ b < s.heap.size ∧ lo = s.heap.size ∧ args = #[Value.ref b] ∧ R = room_1 ∧ Q = lw_Z below #[Value.ref b] s
def sget (xs : Nat → Int32) (L : Nat) (i : Int32) : Option Int32 := if i < 0 ∨ L ≤ i.toNatClampNeg then none else some (xs i.toNatClampNeg)
theorem sget_some {xs : Nat → Int32} {L : Nat} {i x : Int32} (e : sget xs L i = some x) : ¬ (i < 0 ∨ L ≤ i.toNatClampNeg) ∧ x = xs i.toNatClampNeg := by
  unfold sget at e
  split at e
  · cases e
  · next q => cases e; exact ⟨q, rfl⟩
section LawRows
variable {G : Gm} {lo ce sl pc b L : Nat} {xs : Nat → Int32} {lv : List (Nat × Value)} {st : List Value} {h : Hp} {cc : ByteArray} {own : String} {ret0 : Option FieldType} {rm : Room} {nL0 : Nat}
theorem a_sld (C : CX G lo cc own ret0 rm nL0) (X : SX G lo b L xs) {i x : Int32} (d : decode cc pc = .ok (.iaload, 1)) (ho : sget xs L i = some x) (kk : AW G lo ce sl (pc + 1) lv (.int x :: st) h) : AW G lo ce sl pc lv (.int i :: .ref b :: st) h := by
  obtain ⟨p, l, e, R, s, m, args, below, meth, c, Q, dd, nL⟩ := G
  obtain ⟨hx, hb, hr, hml, hown, hts, hlk, hK, hlo', rfl, rfl⟩ := C
  obtain ⟨x1, x2, x3, x4, x5, x6⟩ := X
  obtain ⟨h1, rfl⟩ := sget_some ho
  exact fun ls H locs hlv hH hS => va_sld hx hb x1 x2 (by omega) hS h1 d (kk ls H locs hlv hH hS)
theorem a_slen (C : CX G lo cc own ret0 rm nL0) (X : SX G lo b L xs) (d : decode cc pc = .ok (.arraylength, 1)) (kk : AW G lo ce sl (pc + 1) lv (.int (Int32.ofNat L) :: st) h) : AW G lo ce sl pc lv (.ref b :: st) h := by
  obtain ⟨p, l, e, R, s, m, args, below, meth, c, Q, dd, nL⟩ := G
  obtain ⟨hx, hb, hr, hml, hown, hts, hlk, hK, hlo', rfl, rfl⟩ := C
  obtain ⟨x1, x2, x3, x4, x5, x6⟩ := X
  exact fun ls H locs hlv hH hS => va_slen hx hb x1 x2 (by omega) hS d (kk ls H locs hlv hH hS)
theorem a_law (C : CX G lo code own ret rm nL0) (X : SX G lo b L xs) (h1 : ce ≤ 600000) (h2 : sl ≤ 7302250) (d : decode code pc = .ok (.ireturn, 1)) : AW G lo ce sl pc lv [.int 1] h := by
  obtain ⟨p, l, e, R, s, m, args, below, meth, c, Q, dd, nL⟩ := G
  obtain ⟨hx, hb, hr, hml, hown, hts, hlk, hK, hlo', hR, rfl⟩ := C
  obtain ⟨x1, x2, x3, x4, x5, x6⟩ := X
  subst x4; subst x5; subst x6
  intro ls H locs hlv hH hS
  refine va_forget (fun q hq => by rw [← x3]; exact hS.2.2 q hq) ?_
  exact W.widen h1 h2 (lw_ret hx hb hr hlk d)
end LawRows

set_option maxRecDepth 100000 in
def f_L_law_L18 (k : Int32 → Hp → Option (Int32 × Hp)) (xs : Nat → Int32) (L : Nat) (x1 : Nat) (x2 : Nat) : Nat → Hp → Int32 → Option (Int32 × Hp)
  | 0, _, _ => none
  | fuel + 1, h, x3 => (if ((Int32.ofNat L) - (7 : Int32)) < x3 then k x3 h else bA (sget xs L x3) fun v22 => (if (v22 &&& (31 : Int32)) = (0 : Int32) then bA (sget xs L (x3 + (1 : Int32))) fun v26 => bA (sget xs L (x3 + (2 : Int32))) fun v28 => bA (sget xs L (x3 + (3 : Int32))) fun v30 => bA (isC h x1 10) fun u38 => b2 (f_X11_row h x1 v26 v28 v30) fun r34 h32 => bA (sget xs L (x3 + (1 : Int32))) fun v41 => bA (sget xs L (x3 + (2 : Int32))) fun v43 => bA (sget xs L (x3 + (3 : Int32))) fun v45 => bA (isC h32 x2 11) fun u53 => b2 (f_X12_row h32 x2 v41 v43 v45) fun r49 h47 => (if r34 = r49 then f_L_law_L18 k xs L x1 x2 fuel h47 (x3 + (7 : Int32)) else some ((0 : Int32), h47)) else (if (v22 &&& (31 : Int32)) = (1 : Int32) then bA (sget xs L (x3 + (1 : Int32))) fun v58 => bA (sget xs L (x3 + (2 : Int32))) fun v60 => bA (sget xs L (x3 + (3 : Int32))) fun v62 => bA (isC h x1 10) fun u70 => b2 (f_X11_set h x1 v58 v60 v62) fun r66 h64 => bA (sget xs L (x3 + (1 : Int32))) fun v73 => bA (sget xs L (x3 + (2 : Int32))) fun v75 => bA (sget xs L (x3 + (3 : Int32))) fun v77 => bA (isC h64 x2 11) fun u85 => b2 (f_X12_set h64 x2 v73 v75 v77) fun r81 h79 => (if r66 = r81 then f_L_law_L18 k xs L x1 x2 fuel h79 (x3 + (7 : Int32)) else some ((0 : Int32), h79)) else (if (v22 &&& (31 : Int32)) = (2 : Int32) then bA (sget xs L (x3 + (1 : Int32))) fun v90 => bA (sget xs L (x3 + (2 : Int32))) fun v92 => bA (sget xs L (x3 + (3 : Int32))) fun v94 => bA (sget xs L (x3 + (4 : Int32))) fun v96 => bA (sget xs L (x3 + (5 : Int32))) fun v98 => bA (isC h x1 10) fun u106 => b2 (f_X11_copy h x1 v90 v92 v94 v96 v98) fun r102 h100 => bA (sget xs L (x3 + (1 : Int32))) fun v109 => bA (sget xs L (x3 + (2 : Int32))) fun v111 => bA (sget xs L (x3 + (3 : Int32))) fun v113 => bA (sget xs L (x3 + (4 : Int32))) fun v115 => bA (sget xs L (x3 + (5 : Int32))) fun v117 => bA (isC h100 x2 11) fun u125 => b2 (f_X12_copy h100 x2 v109 v111 v113 v115 v117) fun r121 h119 => (if r102 = r121 then f_L_law_L18 k xs L x1 x2 fuel h119 (x3 + (7 : Int32)) else some ((0 : Int32), h119)) else (if (v22 &&& (31 : Int32)) = (3 : Int32) then bA (sget xs L (x3 + (1 : Int32))) fun v130 => bA (isC h x1 10) fun u138 => b2 (f_X11_drop h x1 v130) fun r134 h132 => bA (sget xs L (x3 + (1 : Int32))) fun v141 => bA (isC h132 x2 11) fun u149 => b2 (f_X12_drop h132 x2 v141) fun r145 h143 => (if r134 = r145 then f_L_law_L18 k xs L x1 x2 fuel h143 (x3 + (7 : Int32)) else some ((0 : Int32), h143)) else (if (v22 &&& (31 : Int32)) = (4 : Int32) then bA (sget xs L (x3 + (1 : Int32))) fun v154 => bA (isC h x1 10) fun u162 => b2 (f_X11_feed h x1 v154) fun r158 h156 => bA (sget xs L (x3 + (1 : Int32))) fun v165 => bA (isC h156 x2 11) fun u173 => b2 (f_X12_feed h156 x2 v165) fun r169 h167 => (if r158 = r169 then f_L_law_L18 k xs L x1 x2 fuel h167 (x3 + (7 : Int32)) else some ((0 : Int32), h167)) else (if (v22 &&& (31 : Int32)) = (5 : Int32) then bA (isC h x1 10) fun u184 => b2 (f_X11_house h x1 ) fun r180 h178 => bA (isC h178 x2 11) fun u193 => b2 (f_X12_house h178 x2 ) fun r189 h187 => (if r180 = r189 then f_L_law_L18 k xs L x1 x2 fuel h187 (x3 + (7 : Int32)) else some ((0 : Int32), h187)) else (if (v22 &&& (31 : Int32)) = (6 : Int32) then bA (isC h x1 10) fun u204 => b2 (f_X11_fault h x1 ) fun r200 h198 => bA (isC h198 x2 11) fun u213 => b2 (f_X12_fault h198 x2 ) fun r209 h207 => (if r200 = r209 then f_L_law_L18 k xs L x1 x2 fuel h207 (x3 + (7 : Int32)) else some ((0 : Int32), h207)) else (if (v22 &&& (31 : Int32)) = (7 : Int32) then bA (isC h x1 10) fun u224 => b2 (f_X11_undo h x1 ) fun r220 h218 => bA (isC h218 x2 11) fun u233 => b2 (f_X12_undo h218 x2 ) fun r229 h227 => (if r220 = r229 then f_L_law_L18 k xs L x1 x2 fuel h227 (x3 + (7 : Int32)) else some ((0 : Int32), h227)) else (if (v22 &&& (31 : Int32)) = (8 : Int32) then bA (sget xs L (x3 + (1 : Int32))) fun v238 => bA (sget xs L (x3 + (2 : Int32))) fun v240 => bA (sget xs L (x3 + (3 : Int32))) fun v242 => bA (isC h x1 10) fun u250 => b2 (f_X11_errand h x1 v238 v240 v242) fun r246 h244 => bA (sget xs L (x3 + (1 : Int32))) fun v253 => bA (sget xs L (x3 + (2 : Int32))) fun v255 => bA (sget xs L (x3 + (3 : Int32))) fun v257 => bA (isC h244 x2 11) fun u265 => b2 (f_X12_errand h244 x2 v253 v255 v257) fun r261 h259 => (if r246 = r261 then f_L_law_L18 k xs L x1 x2 fuel h259 (x3 + (7 : Int32)) else some ((0 : Int32), h259)) else (if (v22 &&& (31 : Int32)) = (9 : Int32) then bA (sget xs L (x3 + (1 : Int32))) fun v270 => bA (isC h x1 10) fun u278 => b2 (f_X11_ledger h x1 v270) fun r274 h272 => bA (sget xs L (x3 + (1 : Int32))) fun v281 => bA (isC h272 x2 11) fun u289 => b2 (f_X12_ledger h272 x2 v281) fun r285 h283 => (if r274 = r285 then f_L_law_L18 k xs L x1 x2 fuel h283 (x3 + (7 : Int32)) else some ((0 : Int32), h283)) else (if (v22 &&& (31 : Int32)) = (10 : Int32) then bA (sget xs L (x3 + (1 : Int32))) fun v294 => bA (isC h x1 10) fun u302 => b2 (f_X11_oil h x1 v294) fun r298 h296 => bA (sget xs L (x3 + (1 : Int32))) fun v305 => bA (isC h296 x2 11) fun u313 => b2 (f_X12_oil h296 x2 v305) fun r309 h307 => (if r298 = r309 then f_L_law_L18 k xs L x1 x2 fuel h307 (x3 + (7 : Int32)) else some ((0 : Int32), h307)) else (if (v22 &&& (31 : Int32)) = (11 : Int32) then bA (sget xs L (x3 + (1 : Int32))) fun v318 => bA (sget xs L (x3 + (2 : Int32))) fun v320 => bA (isC h x1 10) fun u328 => b2 (f_X11_bring h x1 v318 v320) fun r324 h322 => bA (sget xs L (x3 + (1 : Int32))) fun v331 => bA (sget xs L (x3 + (2 : Int32))) fun v333 => bA (isC h322 x2 11) fun u341 => b2 (f_X12_bring h322 x2 v331 v333) fun r337 h335 => (if r324 = r337 then f_L_law_L18 k xs L x1 x2 fuel h335 (x3 + (7 : Int32)) else some ((0 : Int32), h335)) else (if (v22 &&& (31 : Int32)) = (12 : Int32) then bA (sget xs L (x3 + (1 : Int32))) fun v346 => bA (sget xs L (x3 + (2 : Int32))) fun v348 => bA (isC h x1 10) fun u356 => b2 (f_X11_rule h x1 v346 v348) fun r352 h350 => bA (sget xs L (x3 + (1 : Int32))) fun v359 => bA (sget xs L (x3 + (2 : Int32))) fun v361 => bA (isC h350 x2 11) fun u369 => b2 (f_X12_rule h350 x2 v359 v361) fun r365 h363 => (if r352 = r365 then f_L_law_L18 k xs L x1 x2 fuel h363 (x3 + (7 : Int32)) else some ((0 : Int32), h363)) else (if (v22 &&& (31 : Int32)) = (13 : Int32) then bA (sget xs L (x3 + (1 : Int32))) fun v374 => bA (sget xs L (x3 + (2 : Int32))) fun v376 => bA (isC h x1 10) fun u384 => b2 (f_X11_door h x1 v374 v376) fun r380 h378 => bA (sget xs L (x3 + (1 : Int32))) fun v387 => bA (sget xs L (x3 + (2 : Int32))) fun v389 => bA (isC h378 x2 11) fun u397 => b2 (f_X12_door h378 x2 v387 v389) fun r393 h391 => (if r380 = r393 then f_L_law_L18 k xs L x1 x2 fuel h391 (x3 + (7 : Int32)) else some ((0 : Int32), h391)) else (if (v22 &&& (31 : Int32)) = (14 : Int32) then bA (sget xs L (x3 + (1 : Int32))) fun v402 => bA (sget xs L (x3 + (2 : Int32))) fun v404 => bA (isC h x1 10) fun u412 => b2 (f_X11_room h x1 v402 v404) fun r408 h406 => bA (sget xs L (x3 + (1 : Int32))) fun v415 => bA (sget xs L (x3 + (2 : Int32))) fun v417 => bA (isC h406 x2 11) fun u425 => b2 (f_X12_room h406 x2 v415 v417) fun r421 h419 => (if r408 = r421 then f_L_law_L18 k xs L x1 x2 fuel h419 (x3 + (7 : Int32)) else some ((0 : Int32), h419)) else (if (v22 &&& (31 : Int32)) = (15 : Int32) then bA (sget xs L (x3 + (1 : Int32))) fun v430 => bA (sget xs L (x3 + (2 : Int32))) fun v432 => bA (sget xs L (x3 + (3 : Int32))) fun v434 => bA (sget xs L (x3 + (4 : Int32))) fun v436 => bA (isC h x1 10) fun u444 => b2 (f_X11_would h x1 v430 v432 v434 v436) fun r440 h438 => bA (sget xs L (x3 + (1 : Int32))) fun v447 => bA (sget xs L (x3 + (2 : Int32))) fun v449 => bA (sget xs L (x3 + (3 : Int32))) fun v451 => bA (sget xs L (x3 + (4 : Int32))) fun v453 => bA (isC h438 x2 11) fun u461 => b2 (f_X12_would h438 x2 v447 v449 v451 v453) fun r457 h455 => (if r440 = r457 then f_L_law_L18 k xs L x1 x2 fuel h455 (x3 + (7 : Int32)) else some ((0 : Int32), h455)) else (if (v22 &&& (31 : Int32)) = (16 : Int32) then bA (sget xs L (x3 + (1 : Int32))) fun v466 => bA (sget xs L (x3 + (2 : Int32))) fun v468 => bA (isC h x1 10) fun u476 => b2 (f_X11_way h x1 v466 v468) fun r472 h470 => bA (sget xs L (x3 + (1 : Int32))) fun v479 => bA (sget xs L (x3 + (2 : Int32))) fun v481 => bA (isC h470 x2 11) fun u489 => b2 (f_X12_way h470 x2 v479 v481) fun r485 h483 => (if r472 = r485 then f_L_law_L18 k xs L x1 x2 fuel h483 (x3 + (7 : Int32)) else some ((0 : Int32), h483)) else (if (v22 &&& (31 : Int32)) = (17 : Int32) then bA (sget xs L (x3 + (1 : Int32))) fun v494 => bA (sget xs L (x3 + (2 : Int32))) fun v496 => bA (sget xs L (x3 + (3 : Int32))) fun v498 => bA (sget xs L (x3 + (4 : Int32))) fun v500 => bA (isC h x1 10) fun u508 => b2 (f_X11_needs h x1 v494 v496 v498 v500) fun r504 h502 => bA (sget xs L (x3 + (1 : Int32))) fun v511 => bA (sget xs L (x3 + (2 : Int32))) fun v513 => bA (sget xs L (x3 + (3 : Int32))) fun v515 => bA (sget xs L (x3 + (4 : Int32))) fun v517 => bA (isC h502 x2 11) fun u525 => b2 (f_X12_needs h502 x2 v511 v513 v515 v517) fun r521 h519 => (if r504 = r521 then f_L_law_L18 k xs L x1 x2 fuel h519 (x3 + (7 : Int32)) else some ((0 : Int32), h519)) else (if (v22 &&& (31 : Int32)) = (18 : Int32) then bA (sget xs L (x3 + (1 : Int32))) fun v530 => bA (sget xs L (x3 + (2 : Int32))) fun v532 => bA (isC h x1 10) fun u540 => b2 (f_X11_sets h x1 v530 v532) fun r536 h534 => bA (sget xs L (x3 + (1 : Int32))) fun v543 => bA (sget xs L (x3 + (2 : Int32))) fun v545 => bA (isC h534 x2 11) fun u553 => b2 (f_X12_sets h534 x2 v543 v545) fun r549 h547 => (if r536 = r549 then f_L_law_L18 k xs L x1 x2 fuel h547 (x3 + (7 : Int32)) else some ((0 : Int32), h547)) else (if (v22 &&& (31 : Int32)) = (19 : Int32) then bA (sget xs L (x3 + (1 : Int32))) fun v558 => bA (sget xs L (x3 + (2 : Int32))) fun v560 => bA (isC h x1 10) fun u568 => b2 (f_X11_share h x1 v558 v560) fun r564 h562 => bA (sget xs L (x3 + (1 : Int32))) fun v571 => bA (sget xs L (x3 + (2 : Int32))) fun v573 => bA (isC h562 x2 11) fun u581 => b2 (f_X12_share h562 x2 v571 v573) fun r577 h575 => (if r564 = r577 then f_L_law_L18 k xs L x1 x2 fuel h575 (x3 + (7 : Int32)) else some ((0 : Int32), h575)) else (if (v22 &&& (31 : Int32)) = (20 : Int32) then bA (sget xs L (x3 + (1 : Int32))) fun v586 => bA (isC h x1 10) fun u594 => b2 (f_X11_byTurns h x1 v586) fun r590 h588 => bA (sget xs L (x3 + (1 : Int32))) fun v597 => bA (isC h588 x2 11) fun u605 => b2 (f_X12_byTurns h588 x2 v597) fun r601 h599 => (if r590 = r601 then f_L_law_L18 k xs L x1 x2 fuel h599 (x3 + (7 : Int32)) else some ((0 : Int32), h599)) else (if (v22 &&& (31 : Int32)) = (21 : Int32) then bA (sget xs L (x3 + (1 : Int32))) fun v610 => bA (sget xs L (x3 + (2 : Int32))) fun v612 => bA (sget xs L (x3 + (3 : Int32))) fun v614 => bA (sget xs L (x3 + (4 : Int32))) fun v616 => bA (sget xs L (x3 + (5 : Int32))) fun v618 => bA (sget xs L (x3 + (6 : Int32))) fun v620 => bA (isC h x1 10) fun u628 => b2 (f_X11_who h x1 v610 v612 v614 v616 v618 v620) fun r624 h622 => bA (sget xs L (x3 + (1 : Int32))) fun v631 => bA (sget xs L (x3 + (2 : Int32))) fun v633 => bA (sget xs L (x3 + (3 : Int32))) fun v635 => bA (sget xs L (x3 + (4 : Int32))) fun v637 => bA (sget xs L (x3 + (5 : Int32))) fun v639 => bA (sget xs L (x3 + (6 : Int32))) fun v641 => bA (isC h622 x2 11) fun u649 => b2 (f_X12_who h622 x2 v631 v633 v635 v637 v639 v641) fun r645 h643 => (if r624 = r645 then f_L_law_L18 k xs L x1 x2 fuel h643 (x3 + (7 : Int32)) else some ((0 : Int32), h643)) else (if (v22 &&& (31 : Int32)) = (22 : Int32) then bA (sget xs L (x3 + (1 : Int32))) fun v654 => bA (sget xs L (x3 + (2 : Int32))) fun v656 => bA (sget xs L (x3 + (3 : Int32))) fun v658 => bA (sget xs L (x3 + (4 : Int32))) fun v660 => bA (sget xs L (x3 + (5 : Int32))) fun v662 => bA (isC h x1 10) fun u670 => b2 (f_X11_sticks h x1 v654 v656 v658 v660 v662) fun r666 h664 => bA (sget xs L (x3 + (1 : Int32))) fun v673 => bA (sget xs L (x3 + (2 : Int32))) fun v675 => bA (sget xs L (x3 + (3 : Int32))) fun v677 => bA (sget xs L (x3 + (4 : Int32))) fun v679 => bA (sget xs L (x3 + (5 : Int32))) fun v681 => bA (isC h664 x2 11) fun u689 => b2 (f_X12_sticks h664 x2 v673 v675 v677 v679 v681) fun r685 h683 => (if (lg_cmp r666 r685) = 0 then f_L_law_L18 k xs L x1 x2 fuel h683 (x3 + (7 : Int32)) else some ((0 : Int32), h683)) else (if (v22 &&& (31 : Int32)) = (23 : Int32) then bA (sget xs L (x3 + (1 : Int32))) fun v694 => bA (sget xs L (x3 + (2 : Int32))) fun v696 => bA (sget xs L (x3 + (3 : Int32))) fun v698 => bA (isC h x1 10) fun u706 => b2 (f_X11_drawn h x1 v694 v696 v698) fun r702 h700 => bA (sget xs L (x3 + (1 : Int32))) fun v709 => bA (sget xs L (x3 + (2 : Int32))) fun v711 => bA (sget xs L (x3 + (3 : Int32))) fun v713 => bA (isC h700 x2 11) fun u721 => b2 (f_X12_drawn h700 x2 v709 v711 v713) fun r717 h715 => (if r702 = r717 then f_L_law_L18 k xs L x1 x2 fuel h715 (x3 + (7 : Int32)) else some ((0 : Int32), h715)) else (if (v22 &&& (31 : Int32)) = (24 : Int32) then bA (sget xs L (x3 + (1 : Int32))) fun v726 => bA (isC h x1 10) fun u734 => b2 (f_X11_image h x1 v726) fun r730 h728 => bA (sget xs L (x3 + (1 : Int32))) fun v737 => bA (isC h728 x2 11) fun u745 => b2 (f_X12_image h728 x2 v737) fun r741 h739 => (if r730 = r741 then f_L_law_L18 k xs L x1 x2 fuel h739 (x3 + (7 : Int32)) else some ((0 : Int32), h739)) else (if (v22 &&& (31 : Int32)) = (25 : Int32) then bA (sget xs L (x3 + (1 : Int32))) fun v750 => bA (isC h x1 10) fun u758 => b2 (f_X11_restore h x1 v750) fun r754 h752 => bA (sget xs L (x3 + (1 : Int32))) fun v761 => bA (isC h752 x2 11) fun u769 => b2 (f_X12_restore h752 x2 v761) fun r765 h763 => (if r754 = r765 then f_L_law_L18 k xs L x1 x2 fuel h763 (x3 + (7 : Int32)) else some ((0 : Int32), h763)) else (if (v22 &&& (31 : Int32)) = (26 : Int32) then bA (sget xs L (x3 + (1 : Int32))) fun v774 => bA (isC h x1 10) fun u782 => b2 (f_X11_kind h x1 v774) fun r778 h776 => bA (sget xs L (x3 + (1 : Int32))) fun v785 => bA (isC h776 x2 11) fun u793 => b2 (f_X12_kind h776 x2 v785) fun r789 h787 => (if r778 = r789 then f_L_law_L18 k xs L x1 x2 fuel h787 (x3 + (7 : Int32)) else some ((0 : Int32), h787)) else (if (v22 &&& (31 : Int32)) = (27 : Int32) then bA (sget xs L (x3 + (1 : Int32))) fun v798 => bA (sget xs L (x3 + (2 : Int32))) fun v800 => bA (isC h x1 10) fun u808 => b2 (f_X11_as h x1 v798 v800) fun r804 h802 => bA (sget xs L (x3 + (1 : Int32))) fun v811 => bA (sget xs L (x3 + (2 : Int32))) fun v813 => bA (isC h802 x2 11) fun u821 => b2 (f_X12_as h802 x2 v811 v813) fun r817 h815 => (if r804 = r817 then f_L_law_L18 k xs L x1 x2 fuel h815 (x3 + (7 : Int32)) else some ((0 : Int32), h815)) else (if (v22 &&& (31 : Int32)) = (28 : Int32) then bA (sget xs L (x3 + (1 : Int32))) fun v826 => bA (sget xs L (x3 + (2 : Int32))) fun v828 => bA (isC h x1 10) fun u836 => b2 (f_X11_ask h x1 v826 v828) fun r832 h830 => bA (sget xs L (x3 + (1 : Int32))) fun v839 => bA (sget xs L (x3 + (2 : Int32))) fun v841 => bA (isC h830 x2 11) fun u849 => b2 (f_X12_ask h830 x2 v839 v841) fun r845 h843 => (if r832 = r845 then f_L_law_L18 k xs L x1 x2 fuel h843 (x3 + (7 : Int32)) else some ((0 : Int32), h843)) else (if (v22 &&& (31 : Int32)) = (29 : Int32) then bA (sget xs L (x3 + (1 : Int32))) fun v854 => bA (isC h x1 10) fun u862 => b2 (f_X11_trace h x1 v854) fun r858 h856 => bA (sget xs L (x3 + (1 : Int32))) fun v865 => bA (isC h856 x2 11) fun u873 => b2 (f_X12_trace h856 x2 v865) fun r869 h867 => (if r858 = r869 then f_L_law_L18 k xs L x1 x2 fuel h867 (x3 + (7 : Int32)) else some ((0 : Int32), h867)) else (if (v22 &&& (31 : Int32)) = (30 : Int32) then bA (sget xs L (x3 + (1 : Int32))) fun v878 => bA (isC h x1 10) fun u886 => b2 (f_X11_count h x1 v878) fun r882 h880 => bA (sget xs L (x3 + (1 : Int32))) fun v889 => bA (isC h880 x2 11) fun u897 => b2 (f_X12_count h880 x2 v889) fun r893 h891 => (if r882 = r893 then f_L_law_L18 k xs L x1 x2 fuel h891 (x3 + (7 : Int32)) else some ((0 : Int32), h891)) else (if (v22 &&& (31 : Int32)) = (31 : Int32) then bA (isC h x1 10) fun u908 => b2 (f_X11_status h x1 ) fun r904 h902 => bA (isC h902 x2 11) fun u917 => b2 (f_X12_status h902 x2 ) fun r913 h911 => (if r904 = r913 then f_L_law_L18 k xs L x1 x2 fuel h911 (x3 + (7 : Int32)) else some ((0 : Int32), h911)) else f_L_law_L18 k xs L x1 x2 fuel h (x3 + (7 : Int32)))))))))))))))))))))))))))))))))))

set_option maxRecDepth 100000 in
def f_L_law (xs : Nat → Int32) (L : Nat) (h : Hp) : Option (Int32 × Hp) := nw h (.inr (.inr (10, [.inr none, .inr none, .inr none, .inr none, .inr none, .inr none, .inr none, .inr none, .inr none, .inr none, .inr none, .inr none, .inl 0, .inl 0, .inl 0, .inl 0]))) fun q2 h1 => bA (f_X11_init h1 q2 ) fun h3 => nw h3 (.inr (.inr (11, [.inl 0, .inl 0, .inr none, .inr none, .inr none, .inr none, .inr none, .inr none, .inr none, .inl 0, .inr none, .inl 0, .inl 0, .inl 0, .inl 0, .inl 0, .inl 0, .inl 0, .inl 0, .inr none, .inr none, .inl 0, .inl 0, .inl 0, .inl 0, .inl 0, .inr none, .inl 0, .inr none, .inr none, .inr none, .inl 0]))) fun q12 h11 => bA (f_X12_init h11 q12 ) fun h13 => f_L_law_L18 (fun y922 h921 => some ((1 : Int32), h921)) xs L q2 q12 513 h13 (0 : Int32)

set_option maxRecDepth 100000 in
set_option maxHeartbeats 4000000 in
theorem w_L_law_L18 {G : Gm} {lo : Nat} (C : CX G lo cL_law RL ret room_1 4) {h' : Hp} {k : Int32 → Hp → Option (Int32 × Hp)} {b L : Nat} {xs : Nat → Int32} {x1 : Nat} {x2 : Nat} (X : SX G lo b L xs) {cx sx : Nat} (hcx : cx ≤ 600000) (hsx : sx ≤ 7302250) (hk : ∀ (h : Hp) (x3 : Int32), k x3 h = some ((1 : Int32), h') → AW G lo cx sx 1241 [(0, .ref b), (1, .ref (lo + x1)), (2, .ref (lo + x2)), (3, .int x3)] [] h) : ∀ (fuel ce sl : Nat) (h : Hp) (x3 : Int32), ce + fuel * 120 ≤ cx → sl + fuel * 480 ≤ sx → f_L_law_L18 k xs L x1 x2 fuel h x3 = some ((1 : Int32), h') → AW G lo ce sl 18 [(0, .ref b), (1, .ref (lo + x1)), (2, .ref (lo + x2)), (3, .int x3)] [] h := by
  intro fuel
  induction fuel with
  | zero =>
    intro ce sl h x3 _ _ e
    cases (show (none : Option (Int32 × Hp)) = some ((1 : Int32), h') from e)
  | succ fuel ih =>
    intro ce sl h x3 hc1 hs1 e
    rw [f_L_law_L18] at e
    refine a_iload_n C dL_law_18 rfl 3 rfl ?_
    refine a_aload_n C dL_law_19 rfl 0 rfl ?_
    refine a_slen C X dL_law_20 ?_
    refine a_bipush (v := (7 : Int32)) C dL_law_21 (by decide) ?_
    refine a_isub C dL_law_23 ?_
    refine a_icmp_gt (tgt := 1241) C dL_law_24 (by decide) (fun c21 => ?_) (fun c21 => ?_)
    · have e := ip c21 e
      exact a_sub [0, 1, 2, 3] rfl (a_widen (by omega) (by omega) (hk _ _ e))
    · have e := iN c21 e
      refine a_aload_n C dL_law_27 rfl 0 rfl ?_
      refine a_iload_n C dL_law_28 rfl 3 rfl ?_
      obtain ⟨v22, e23, e⟩ := bA_some e
      refine a_sld C X dL_law_29 e23 ?_
      refine a_bipush (v := (31 : Int32)) C dL_law_30 (by decide) ?_
      refine a_iand C dL_law_32 ?_
      generalize hxx24 : (v22 &&& (31 : Int32)) = x24 at e ⊢
      by_cases c25 : x24 = (0 : Int32)
      · have e := ip c25 e
        refine a_tableIn (tgt := 176) C dL_law_33 (by rw [c25]; decide) (by rw [c25]; decide) (by rw [c25]; first | done | rfl) (by decide) ?_
        refine a_aload_n C dL_law_176 rfl 1 rfl ?_
        refine a_aload_n C dL_law_177 rfl 0 rfl ?_
        refine a_iload_n C dL_law_178 rfl 3 rfl ?_
        refine a_iconst (v := (1 : Int32)) C dL_law_179 (by decide) ?_
        refine a_iadd C dL_law_180 ?_
        obtain ⟨v26, e27, e⟩ := bA_some e
        refine a_sld C X dL_law_181 e27 ?_
        refine a_aload_n C dL_law_182 rfl 0 rfl ?_
        refine a_iload_n C dL_law_183 rfl 3 rfl ?_
        refine a_iconst (v := (2 : Int32)) C dL_law_184 (by decide) ?_
        refine a_iadd C dL_law_185 ?_
        obtain ⟨v28, e29, e⟩ := bA_some e
        refine a_sld C X dL_law_186 e29 ?_
        refine a_aload_n C dL_law_187 rfl 0 rfl ?_
        refine a_iload_n C dL_law_188 rfl 3 rfl ?_
        refine a_iconst (v := (3 : Int32)) C dL_law_189 (by decide) ?_
        refine a_iadd C dL_law_190 ?_
        obtain ⟨v30, e31, e⟩ := bA_some e
        refine a_sld C X dL_law_191 e31 ?_
        obtain ⟨u38, ec37, e⟩ := bA_some e
        obtain ⟨fs36, eo35⟩ := isC_some ec37
        obtain ⟨r34, h32, e33, e⟩ := b2_some e
        refine a_callV (as := [.int v26, .int v28, .int v30]) (rest := []) C m_X11_row im_X11_row cb10 se_X11_X11_row_X11_row ml_L_13 rfl (Nat.le_of_ble_eq_true rfl) (Nat.le_of_ble_eq_true rfl) (by show ce ≤ (600000 : Nat); omega) (by show sl ≤ (7302250 : Nat); omega) (Nat.le_of_ble_eq_true rfl) dL_law_192 eo35 (k_X11_row e33) rfl ?_
        show AW G lo ce sl 195 [(0, .ref b), (1, .ref (lo + x1)), (2, .ref (lo + x2)), (3, .int x3)] [.int r34] h32
        refine a_aload_n C dL_law_195 rfl 2 rfl ?_
        refine a_aload_n C dL_law_196 rfl 0 rfl ?_
        refine a_iload_n C dL_law_197 rfl 3 rfl ?_
        refine a_iconst (v := (1 : Int32)) C dL_law_198 (by decide) ?_
        refine a_iadd C dL_law_199 ?_
        obtain ⟨v41, e42, e⟩ := bA_some e
        refine a_sld C X dL_law_200 e42 ?_
        refine a_aload_n C dL_law_201 rfl 0 rfl ?_
        refine a_iload_n C dL_law_202 rfl 3 rfl ?_
        refine a_iconst (v := (2 : Int32)) C dL_law_203 (by decide) ?_
        refine a_iadd C dL_law_204 ?_
        obtain ⟨v43, e44, e⟩ := bA_some e
        refine a_sld C X dL_law_205 e44 ?_
        refine a_aload_n C dL_law_206 rfl 0 rfl ?_
        refine a_iload_n C dL_law_207 rfl 3 rfl ?_
        refine a_iconst (v := (3 : Int32)) C dL_law_208 (by decide) ?_
        refine a_iadd C dL_law_209 ?_
        obtain ⟨v45, e46, e⟩ := bA_some e
        refine a_sld C X dL_law_210 e46 ?_
        obtain ⟨u53, ec52, e⟩ := bA_some e
        obtain ⟨fs51, eo50⟩ := isC_some ec52
        obtain ⟨r49, h47, e48, e⟩ := b2_some e
        refine a_callV (as := [.int v41, .int v43, .int v45]) (rest := [.int r34]) C m_X12_row im_X12_row cb11 se_X12_X12_row_X12_row ml_L_17 rfl (Nat.le_of_ble_eq_true rfl) (Nat.le_of_ble_eq_true rfl) (by show ce ≤ (600000 : Nat); omega) (by show sl ≤ (7302250 : Nat); omega) (Nat.le_of_ble_eq_true rfl) dL_law_211 eo50 (k_X12_row e48) rfl ?_
        show AW G lo ce sl 214 [(0, .ref b), (1, .ref (lo + x1)), (2, .ref (lo + x2)), (3, .int x3)] [.int r49, .int r34] h47
        refine a_icmp_eq (tgt := 1235) C dL_law_214 (by decide) (fun c56 => ?_) (fun c56 => ?_)
        · have e := ip c56 e
          refine a_iinc (v := x3 + (7 : Int32)) (lv2 := [(3, .int (x3 + (7 : Int32))), (0, .ref b), (1, .ref (lo + x1)), (2, .ref (lo + x2))]) C dL_law_1235 3 rfl rfl (by decide) rfl ?_
          refine a_goto (tgt := 18) C dL_law_1238 (by decide) ?_
          exact a_sub [1, 2, 3, 0] rfl (a_widen (ce2 := ce + 120) (sl2 := sl + 480) (by omega) (by omega) (ih _ _ _ _ (by omega) (by omega) e))
        · have e := iN c56 e
          refine a_iconst (v := (0 : Int32)) C dL_law_217 (by decide) ?_
          exact absurd (sp2 e).1 (by decide)
      have e := iN c25 e
      by_cases c57 : x24 = (1 : Int32)
      · have e := ip c57 e
        refine a_tableIn (tgt := 219) C dL_law_33 (by rw [c57]; decide) (by rw [c57]; decide) (by rw [c57]; first | done | rfl) (by decide) ?_
        refine a_aload_n C dL_law_219 rfl 1 rfl ?_
        refine a_aload_n C dL_law_220 rfl 0 rfl ?_
        refine a_iload_n C dL_law_221 rfl 3 rfl ?_
        refine a_iconst (v := (1 : Int32)) C dL_law_222 (by decide) ?_
        refine a_iadd C dL_law_223 ?_
        obtain ⟨v58, e59, e⟩ := bA_some e
        refine a_sld C X dL_law_224 e59 ?_
        refine a_aload_n C dL_law_225 rfl 0 rfl ?_
        refine a_iload_n C dL_law_226 rfl 3 rfl ?_
        refine a_iconst (v := (2 : Int32)) C dL_law_227 (by decide) ?_
        refine a_iadd C dL_law_228 ?_
        obtain ⟨v60, e61, e⟩ := bA_some e
        refine a_sld C X dL_law_229 e61 ?_
        refine a_aload_n C dL_law_230 rfl 0 rfl ?_
        refine a_iload_n C dL_law_231 rfl 3 rfl ?_
        refine a_iconst (v := (3 : Int32)) C dL_law_232 (by decide) ?_
        refine a_iadd C dL_law_233 ?_
        obtain ⟨v62, e63, e⟩ := bA_some e
        refine a_sld C X dL_law_234 e63 ?_
        obtain ⟨u70, ec69, e⟩ := bA_some e
        obtain ⟨fs68, eo67⟩ := isC_some ec69
        obtain ⟨r66, h64, e65, e⟩ := b2_some e
        refine a_callV (as := [.int v58, .int v60, .int v62]) (rest := []) C m_X11_set im_X11_set cb10 se_X11_X11_set_X11_set ml_L_18 rfl (Nat.le_of_ble_eq_true rfl) (Nat.le_of_ble_eq_true rfl) (by show ce ≤ (600000 : Nat); omega) (by show sl ≤ (7302250 : Nat); omega) (Nat.le_of_ble_eq_true rfl) dL_law_235 eo67 (k_X11_set e65) rfl ?_
        show AW G lo ce sl 238 [(0, .ref b), (1, .ref (lo + x1)), (2, .ref (lo + x2)), (3, .int x3)] [.int r66] h64
        refine a_aload_n C dL_law_238 rfl 2 rfl ?_
        refine a_aload_n C dL_law_239 rfl 0 rfl ?_
        refine a_iload_n C dL_law_240 rfl 3 rfl ?_
        refine a_iconst (v := (1 : Int32)) C dL_law_241 (by decide) ?_
        refine a_iadd C dL_law_242 ?_
        obtain ⟨v73, e74, e⟩ := bA_some e
        refine a_sld C X dL_law_243 e74 ?_
        refine a_aload_n C dL_law_244 rfl 0 rfl ?_
        refine a_iload_n C dL_law_245 rfl 3 rfl ?_
        refine a_iconst (v := (2 : Int32)) C dL_law_246 (by decide) ?_
        refine a_iadd C dL_law_247 ?_
        obtain ⟨v75, e76, e⟩ := bA_some e
        refine a_sld C X dL_law_248 e76 ?_
        refine a_aload_n C dL_law_249 rfl 0 rfl ?_
        refine a_iload_n C dL_law_250 rfl 3 rfl ?_
        refine a_iconst (v := (3 : Int32)) C dL_law_251 (by decide) ?_
        refine a_iadd C dL_law_252 ?_
        obtain ⟨v77, e78, e⟩ := bA_some e
        refine a_sld C X dL_law_253 e78 ?_
        obtain ⟨u85, ec84, e⟩ := bA_some e
        obtain ⟨fs83, eo82⟩ := isC_some ec84
        obtain ⟨r81, h79, e80, e⟩ := b2_some e
        refine a_callV (as := [.int v73, .int v75, .int v77]) (rest := [.int r66]) C m_X12_set im_X12_set cb11 se_X12_X12_set_X12_set ml_L_21 rfl (Nat.le_of_ble_eq_true rfl) (Nat.le_of_ble_eq_true rfl) (by show ce ≤ (600000 : Nat); omega) (by show sl ≤ (7302250 : Nat); omega) (Nat.le_of_ble_eq_true rfl) dL_law_254 eo82 (k_X12_set e80) rfl ?_
        show AW G lo ce sl 257 [(0, .ref b), (1, .ref (lo + x1)), (2, .ref (lo + x2)), (3, .int x3)] [.int r81, .int r66] h79
        refine a_icmp_eq (tgt := 1235) C dL_law_257 (by decide) (fun c88 => ?_) (fun c88 => ?_)
        · have e := ip c88 e
          refine a_iinc (v := x3 + (7 : Int32)) (lv2 := [(3, .int (x3 + (7 : Int32))), (0, .ref b), (1, .ref (lo + x1)), (2, .ref (lo + x2))]) C dL_law_1235 3 rfl rfl (by decide) rfl ?_
          refine a_goto (tgt := 18) C dL_law_1238 (by decide) ?_
          exact a_sub [1, 2, 3, 0] rfl (a_widen (ce2 := ce + 120) (sl2 := sl + 480) (by omega) (by omega) (ih _ _ _ _ (by omega) (by omega) e))
        · have e := iN c88 e
          refine a_iconst (v := (0 : Int32)) C dL_law_260 (by decide) ?_
          exact absurd (sp2 e).1 (by decide)
      have e := iN c57 e
      by_cases c89 : x24 = (2 : Int32)
      · have e := ip c89 e
        refine a_tableIn (tgt := 262) C dL_law_33 (by rw [c89]; decide) (by rw [c89]; decide) (by rw [c89]; first | done | rfl) (by decide) ?_
        refine a_aload_n C dL_law_262 rfl 1 rfl ?_
        refine a_aload_n C dL_law_263 rfl 0 rfl ?_
        refine a_iload_n C dL_law_264 rfl 3 rfl ?_
        refine a_iconst (v := (1 : Int32)) C dL_law_265 (by decide) ?_
        refine a_iadd C dL_law_266 ?_
        obtain ⟨v90, e91, e⟩ := bA_some e
        refine a_sld C X dL_law_267 e91 ?_
        refine a_aload_n C dL_law_268 rfl 0 rfl ?_
        refine a_iload_n C dL_law_269 rfl 3 rfl ?_
        refine a_iconst (v := (2 : Int32)) C dL_law_270 (by decide) ?_
        refine a_iadd C dL_law_271 ?_
        obtain ⟨v92, e93, e⟩ := bA_some e
        refine a_sld C X dL_law_272 e93 ?_
        refine a_aload_n C dL_law_273 rfl 0 rfl ?_
        refine a_iload_n C dL_law_274 rfl 3 rfl ?_
        refine a_iconst (v := (3 : Int32)) C dL_law_275 (by decide) ?_
        refine a_iadd C dL_law_276 ?_
        obtain ⟨v94, e95, e⟩ := bA_some e
        refine a_sld C X dL_law_277 e95 ?_
        refine a_aload_n C dL_law_278 rfl 0 rfl ?_
        refine a_iload_n C dL_law_279 rfl 3 rfl ?_
        refine a_iconst (v := (4 : Int32)) C dL_law_280 (by decide) ?_
        refine a_iadd C dL_law_281 ?_
        obtain ⟨v96, e97, e⟩ := bA_some e
        refine a_sld C X dL_law_282 e97 ?_
        refine a_aload_n C dL_law_283 rfl 0 rfl ?_
        refine a_iload_n C dL_law_284 rfl 3 rfl ?_
        refine a_iconst (v := (5 : Int32)) C dL_law_285 (by decide) ?_
        refine a_iadd C dL_law_286 ?_
        obtain ⟨v98, e99, e⟩ := bA_some e
        refine a_sld C X dL_law_287 e99 ?_
        obtain ⟨u106, ec105, e⟩ := bA_some e
        obtain ⟨fs104, eo103⟩ := isC_some ec105
        obtain ⟨r102, h100, e101, e⟩ := b2_some e
        refine a_callV (as := [.int v90, .int v92, .int v94, .int v96, .int v98]) (rest := []) C m_X11_copy im_X11_copy cb10 se_X11_X11_copy_X11_copy ml_L_22 rfl (Nat.le_of_ble_eq_true rfl) (Nat.le_of_ble_eq_true rfl) (by show ce ≤ (600000 : Nat); omega) (by show sl ≤ (7302250 : Nat); omega) (Nat.le_of_ble_eq_true rfl) dL_law_288 eo103 (k_X11_copy e101) rfl ?_
        show AW G lo ce sl 291 [(0, .ref b), (1, .ref (lo + x1)), (2, .ref (lo + x2)), (3, .int x3)] [.int r102] h100
        refine a_aload_n C dL_law_291 rfl 2 rfl ?_
        refine a_aload_n C dL_law_292 rfl 0 rfl ?_
        refine a_iload_n C dL_law_293 rfl 3 rfl ?_
        refine a_iconst (v := (1 : Int32)) C dL_law_294 (by decide) ?_
        refine a_iadd C dL_law_295 ?_
        obtain ⟨v109, e110, e⟩ := bA_some e
        refine a_sld C X dL_law_296 e110 ?_
        refine a_aload_n C dL_law_297 rfl 0 rfl ?_
        refine a_iload_n C dL_law_298 rfl 3 rfl ?_
        refine a_iconst (v := (2 : Int32)) C dL_law_299 (by decide) ?_
        refine a_iadd C dL_law_300 ?_
        obtain ⟨v111, e112, e⟩ := bA_some e
        refine a_sld C X dL_law_301 e112 ?_
        refine a_aload_n C dL_law_302 rfl 0 rfl ?_
        refine a_iload_n C dL_law_303 rfl 3 rfl ?_
        refine a_iconst (v := (3 : Int32)) C dL_law_304 (by decide) ?_
        refine a_iadd C dL_law_305 ?_
        obtain ⟨v113, e114, e⟩ := bA_some e
        refine a_sld C X dL_law_306 e114 ?_
        refine a_aload_n C dL_law_307 rfl 0 rfl ?_
        refine a_iload_n C dL_law_308 rfl 3 rfl ?_
        refine a_iconst (v := (4 : Int32)) C dL_law_309 (by decide) ?_
        refine a_iadd C dL_law_310 ?_
        obtain ⟨v115, e116, e⟩ := bA_some e
        refine a_sld C X dL_law_311 e116 ?_
        refine a_aload_n C dL_law_312 rfl 0 rfl ?_
        refine a_iload_n C dL_law_313 rfl 3 rfl ?_
        refine a_iconst (v := (5 : Int32)) C dL_law_314 (by decide) ?_
        refine a_iadd C dL_law_315 ?_
        obtain ⟨v117, e118, e⟩ := bA_some e
        refine a_sld C X dL_law_316 e118 ?_
        obtain ⟨u125, ec124, e⟩ := bA_some e
        obtain ⟨fs123, eo122⟩ := isC_some ec124
        obtain ⟨r121, h119, e120, e⟩ := b2_some e
        refine a_callV (as := [.int v109, .int v111, .int v113, .int v115, .int v117]) (rest := [.int r102]) C m_X12_copy im_X12_copy cb11 se_X12_X12_copy_X12_copy ml_L_26 rfl (Nat.le_of_ble_eq_true rfl) (Nat.le_of_ble_eq_true rfl) (by show ce ≤ (600000 : Nat); omega) (by show sl ≤ (7302250 : Nat); omega) (Nat.le_of_ble_eq_true rfl) dL_law_317 eo122 (k_X12_copy e120) rfl ?_
        show AW G lo ce sl 320 [(0, .ref b), (1, .ref (lo + x1)), (2, .ref (lo + x2)), (3, .int x3)] [.int r121, .int r102] h119
        refine a_icmp_eq (tgt := 1235) C dL_law_320 (by decide) (fun c128 => ?_) (fun c128 => ?_)
        · have e := ip c128 e
          refine a_iinc (v := x3 + (7 : Int32)) (lv2 := [(3, .int (x3 + (7 : Int32))), (0, .ref b), (1, .ref (lo + x1)), (2, .ref (lo + x2))]) C dL_law_1235 3 rfl rfl (by decide) rfl ?_
          refine a_goto (tgt := 18) C dL_law_1238 (by decide) ?_
          exact a_sub [1, 2, 3, 0] rfl (a_widen (ce2 := ce + 120) (sl2 := sl + 480) (by omega) (by omega) (ih _ _ _ _ (by omega) (by omega) e))
        · have e := iN c128 e
          refine a_iconst (v := (0 : Int32)) C dL_law_323 (by decide) ?_
          exact absurd (sp2 e).1 (by decide)
      have e := iN c89 e
      by_cases c129 : x24 = (3 : Int32)
      · have e := ip c129 e
        refine a_tableIn (tgt := 325) C dL_law_33 (by rw [c129]; decide) (by rw [c129]; decide) (by rw [c129]; first | done | rfl) (by decide) ?_
        refine a_aload_n C dL_law_325 rfl 1 rfl ?_
        refine a_aload_n C dL_law_326 rfl 0 rfl ?_
        refine a_iload_n C dL_law_327 rfl 3 rfl ?_
        refine a_iconst (v := (1 : Int32)) C dL_law_328 (by decide) ?_
        refine a_iadd C dL_law_329 ?_
        obtain ⟨v130, e131, e⟩ := bA_some e
        refine a_sld C X dL_law_330 e131 ?_
        obtain ⟨u138, ec137, e⟩ := bA_some e
        obtain ⟨fs136, eo135⟩ := isC_some ec137
        obtain ⟨r134, h132, e133, e⟩ := b2_some e
        refine a_callV (as := [.int v130]) (rest := []) C m_X11_drop im_X11_drop cb10 se_X11_X11_drop_X11_drop ml_L_27 rfl (Nat.le_of_ble_eq_true rfl) (Nat.le_of_ble_eq_true rfl) (by show ce ≤ (600000 : Nat); omega) (by show sl ≤ (7302250 : Nat); omega) (Nat.le_of_ble_eq_true rfl) dL_law_331 eo135 (k_X11_drop e133) rfl ?_
        show AW G lo ce sl 334 [(0, .ref b), (1, .ref (lo + x1)), (2, .ref (lo + x2)), (3, .int x3)] [.int r134] h132
        refine a_aload_n C dL_law_334 rfl 2 rfl ?_
        refine a_aload_n C dL_law_335 rfl 0 rfl ?_
        refine a_iload_n C dL_law_336 rfl 3 rfl ?_
        refine a_iconst (v := (1 : Int32)) C dL_law_337 (by decide) ?_
        refine a_iadd C dL_law_338 ?_
        obtain ⟨v141, e142, e⟩ := bA_some e
        refine a_sld C X dL_law_339 e142 ?_
        obtain ⟨u149, ec148, e⟩ := bA_some e
        obtain ⟨fs147, eo146⟩ := isC_some ec148
        obtain ⟨r145, h143, e144, e⟩ := b2_some e
        refine a_callV (as := [.int v141]) (rest := [.int r134]) C m_X12_drop im_X12_drop cb11 se_X12_X12_drop_X12_drop ml_L_31 rfl (Nat.le_of_ble_eq_true rfl) (Nat.le_of_ble_eq_true rfl) (by show ce ≤ (600000 : Nat); omega) (by show sl ≤ (7302250 : Nat); omega) (Nat.le_of_ble_eq_true rfl) dL_law_340 eo146 (k_X12_drop e144) rfl ?_
        show AW G lo ce sl 343 [(0, .ref b), (1, .ref (lo + x1)), (2, .ref (lo + x2)), (3, .int x3)] [.int r145, .int r134] h143
        refine a_icmp_eq (tgt := 1235) C dL_law_343 (by decide) (fun c152 => ?_) (fun c152 => ?_)
        · have e := ip c152 e
          refine a_iinc (v := x3 + (7 : Int32)) (lv2 := [(3, .int (x3 + (7 : Int32))), (0, .ref b), (1, .ref (lo + x1)), (2, .ref (lo + x2))]) C dL_law_1235 3 rfl rfl (by decide) rfl ?_
          refine a_goto (tgt := 18) C dL_law_1238 (by decide) ?_
          exact a_sub [1, 2, 3, 0] rfl (a_widen (ce2 := ce + 120) (sl2 := sl + 480) (by omega) (by omega) (ih _ _ _ _ (by omega) (by omega) e))
        · have e := iN c152 e
          refine a_iconst (v := (0 : Int32)) C dL_law_346 (by decide) ?_
          exact absurd (sp2 e).1 (by decide)
      have e := iN c129 e
      by_cases c153 : x24 = (4 : Int32)
      · have e := ip c153 e
        refine a_tableIn (tgt := 348) C dL_law_33 (by rw [c153]; decide) (by rw [c153]; decide) (by rw [c153]; first | done | rfl) (by decide) ?_
        refine a_aload_n C dL_law_348 rfl 1 rfl ?_
        refine a_aload_n C dL_law_349 rfl 0 rfl ?_
        refine a_iload_n C dL_law_350 rfl 3 rfl ?_
        refine a_iconst (v := (1 : Int32)) C dL_law_351 (by decide) ?_
        refine a_iadd C dL_law_352 ?_
        obtain ⟨v154, e155, e⟩ := bA_some e
        refine a_sld C X dL_law_353 e155 ?_
        obtain ⟨u162, ec161, e⟩ := bA_some e
        obtain ⟨fs160, eo159⟩ := isC_some ec161
        obtain ⟨r158, h156, e157, e⟩ := b2_some e
        refine a_callV (as := [.int v154]) (rest := []) C m_X11_feed im_X11_feed cb10 se_X11_X11_feed_X11_feed ml_L_32 rfl (Nat.le_of_ble_eq_true rfl) (Nat.le_of_ble_eq_true rfl) (by show ce ≤ (600000 : Nat); omega) (by show sl ≤ (7302250 : Nat); omega) (Nat.le_of_ble_eq_true rfl) dL_law_354 eo159 (k_X11_feed e157) rfl ?_
        show AW G lo ce sl 357 [(0, .ref b), (1, .ref (lo + x1)), (2, .ref (lo + x2)), (3, .int x3)] [.int r158] h156
        refine a_aload_n C dL_law_357 rfl 2 rfl ?_
        refine a_aload_n C dL_law_358 rfl 0 rfl ?_
        refine a_iload_n C dL_law_359 rfl 3 rfl ?_
        refine a_iconst (v := (1 : Int32)) C dL_law_360 (by decide) ?_
        refine a_iadd C dL_law_361 ?_
        obtain ⟨v165, e166, e⟩ := bA_some e
        refine a_sld C X dL_law_362 e166 ?_
        obtain ⟨u173, ec172, e⟩ := bA_some e
        obtain ⟨fs171, eo170⟩ := isC_some ec172
        obtain ⟨r169, h167, e168, e⟩ := b2_some e
        refine a_callV (as := [.int v165]) (rest := [.int r158]) C m_X12_feed im_X12_feed cb11 se_X12_X12_feed_X12_feed ml_L_35 rfl (Nat.le_of_ble_eq_true rfl) (Nat.le_of_ble_eq_true rfl) (by show ce ≤ (600000 : Nat); omega) (by show sl ≤ (7302250 : Nat); omega) (Nat.le_of_ble_eq_true rfl) dL_law_363 eo170 (k_X12_feed e168) rfl ?_
        show AW G lo ce sl 366 [(0, .ref b), (1, .ref (lo + x1)), (2, .ref (lo + x2)), (3, .int x3)] [.int r169, .int r158] h167
        refine a_icmp_eq (tgt := 1235) C dL_law_366 (by decide) (fun c176 => ?_) (fun c176 => ?_)
        · have e := ip c176 e
          refine a_iinc (v := x3 + (7 : Int32)) (lv2 := [(3, .int (x3 + (7 : Int32))), (0, .ref b), (1, .ref (lo + x1)), (2, .ref (lo + x2))]) C dL_law_1235 3 rfl rfl (by decide) rfl ?_
          refine a_goto (tgt := 18) C dL_law_1238 (by decide) ?_
          exact a_sub [1, 2, 3, 0] rfl (a_widen (ce2 := ce + 120) (sl2 := sl + 480) (by omega) (by omega) (ih _ _ _ _ (by omega) (by omega) e))
        · have e := iN c176 e
          refine a_iconst (v := (0 : Int32)) C dL_law_369 (by decide) ?_
          exact absurd (sp2 e).1 (by decide)
      have e := iN c153 e
      by_cases c177 : x24 = (5 : Int32)
      · have e := ip c177 e
        refine a_tableIn (tgt := 371) C dL_law_33 (by rw [c177]; decide) (by rw [c177]; decide) (by rw [c177]; first | done | rfl) (by decide) ?_
        refine a_aload_n C dL_law_371 rfl 1 rfl ?_
        obtain ⟨u184, ec183, e⟩ := bA_some e
        obtain ⟨fs182, eo181⟩ := isC_some ec183
        obtain ⟨r180, h178, e179, e⟩ := b2_some e
        refine a_callV (as := []) (rest := []) C m_X11_house im_X11_house cb10 se_X11_X11_house_X11_house ml_L_36 rfl (Nat.le_of_ble_eq_true rfl) (Nat.le_of_ble_eq_true rfl) (by show (ce + 120) ≤ (600000 : Nat); omega) (by show (sl + 480) ≤ (7302250 : Nat); omega) (Nat.le_of_ble_eq_true rfl) dL_law_372 eo181 (k_X11_house e179) rfl ?_
        show AW G lo (ce + 120) (sl + 480) 375 [(0, .ref b), (1, .ref (lo + x1)), (2, .ref (lo + x2)), (3, .int x3)] [.int r180] h178
        refine a_aload_n C dL_law_375 rfl 2 rfl ?_
        obtain ⟨u193, ec192, e⟩ := bA_some e
        obtain ⟨fs191, eo190⟩ := isC_some ec192
        obtain ⟨r189, h187, e188, e⟩ := b2_some e
        refine a_callV (as := []) (rest := [.int r180]) C m_X12_house im_X12_house cb11 se_X12_X12_house_X12_house ml_L_40 rfl (Nat.le_of_ble_eq_true rfl) (Nat.le_of_ble_eq_true rfl) (by show (ce + 120) ≤ (600000 : Nat); omega) (by show (sl + 480) ≤ (7302250 : Nat); omega) (Nat.le_of_ble_eq_true rfl) dL_law_376 eo190 (k_X12_house e188) rfl ?_
        show AW G lo (ce + 120) (sl + 480) 379 [(0, .ref b), (1, .ref (lo + x1)), (2, .ref (lo + x2)), (3, .int x3)] [.int r189, .int r180] h187
        refine a_icmp_eq (tgt := 1235) C dL_law_379 (by decide) (fun c196 => ?_) (fun c196 => ?_)
        · have e := ip c196 e
          refine a_iinc (v := x3 + (7 : Int32)) (lv2 := [(3, .int (x3 + (7 : Int32))), (0, .ref b), (1, .ref (lo + x1)), (2, .ref (lo + x2))]) C dL_law_1235 3 rfl rfl (by decide) rfl ?_
          refine a_goto (tgt := 18) C dL_law_1238 (by decide) ?_
          exact a_sub [1, 2, 3, 0] rfl (a_widen (ce2 := ce + 120) (sl2 := sl + 480) (by omega) (by omega) (ih _ _ _ _ (by omega) (by omega) e))
        · have e := iN c196 e
          refine a_iconst (v := (0 : Int32)) C dL_law_382 (by decide) ?_
          exact absurd (sp2 e).1 (by decide)
      have e := iN c177 e
      by_cases c197 : x24 = (6 : Int32)
      · have e := ip c197 e
        refine a_tableIn (tgt := 384) C dL_law_33 (by rw [c197]; decide) (by rw [c197]; decide) (by rw [c197]; first | done | rfl) (by decide) ?_
        refine a_aload_n C dL_law_384 rfl 1 rfl ?_
        obtain ⟨u204, ec203, e⟩ := bA_some e
        obtain ⟨fs202, eo201⟩ := isC_some ec203
        obtain ⟨r200, h198, e199, e⟩ := b2_some e
        refine a_callV (as := []) (rest := []) C m_X11_fault im_X11_fault cb10 se_X11_X11_fault_X11_fault ml_L_41 rfl (Nat.le_of_ble_eq_true rfl) (Nat.le_of_ble_eq_true rfl) (by show ce ≤ (600000 : Nat); omega) (by show sl ≤ (7302250 : Nat); omega) (Nat.le_of_ble_eq_true rfl) dL_law_385 eo201 (k_X11_fault e199) rfl ?_
        show AW G lo ce sl 388 [(0, .ref b), (1, .ref (lo + x1)), (2, .ref (lo + x2)), (3, .int x3)] [.int r200] h198
        refine a_aload_n C dL_law_388 rfl 2 rfl ?_
        obtain ⟨u213, ec212, e⟩ := bA_some e
        obtain ⟨fs211, eo210⟩ := isC_some ec212
        obtain ⟨r209, h207, e208, e⟩ := b2_some e
        refine a_callV (as := []) (rest := [.int r200]) C m_X12_fault im_X12_fault cb11 se_X12_X12_fault_X12_fault ml_L_44 rfl (Nat.le_of_ble_eq_true rfl) (Nat.le_of_ble_eq_true rfl) (by show ce ≤ (600000 : Nat); omega) (by show sl ≤ (7302250 : Nat); omega) (Nat.le_of_ble_eq_true rfl) dL_law_389 eo210 (k_X12_fault e208) rfl ?_
        show AW G lo ce sl 392 [(0, .ref b), (1, .ref (lo + x1)), (2, .ref (lo + x2)), (3, .int x3)] [.int r209, .int r200] h207
        refine a_icmp_eq (tgt := 1235) C dL_law_392 (by decide) (fun c216 => ?_) (fun c216 => ?_)
        · have e := ip c216 e
          refine a_iinc (v := x3 + (7 : Int32)) (lv2 := [(3, .int (x3 + (7 : Int32))), (0, .ref b), (1, .ref (lo + x1)), (2, .ref (lo + x2))]) C dL_law_1235 3 rfl rfl (by decide) rfl ?_
          refine a_goto (tgt := 18) C dL_law_1238 (by decide) ?_
          exact a_sub [1, 2, 3, 0] rfl (a_widen (ce2 := ce + 120) (sl2 := sl + 480) (by omega) (by omega) (ih _ _ _ _ (by omega) (by omega) e))
        · have e := iN c216 e
          refine a_iconst (v := (0 : Int32)) C dL_law_395 (by decide) ?_
          exact absurd (sp2 e).1 (by decide)
      have e := iN c197 e
      by_cases c217 : x24 = (7 : Int32)
      · have e := ip c217 e
        refine a_tableIn (tgt := 397) C dL_law_33 (by rw [c217]; decide) (by rw [c217]; decide) (by rw [c217]; first | done | rfl) (by decide) ?_
        refine a_aload_n C dL_law_397 rfl 1 rfl ?_
        obtain ⟨u224, ec223, e⟩ := bA_some e
        obtain ⟨fs222, eo221⟩ := isC_some ec223
        obtain ⟨r220, h218, e219, e⟩ := b2_some e
        refine a_callV (as := []) (rest := []) C m_X11_undo im_X11_undo cb10 se_X11_X11_undo_X11_undo ml_L_45 rfl (Nat.le_of_ble_eq_true rfl) (Nat.le_of_ble_eq_true rfl) (by show ce ≤ (600000 : Nat); omega) (by show sl ≤ (7302250 : Nat); omega) (Nat.le_of_ble_eq_true rfl) dL_law_398 eo221 (k_X11_undo e219) rfl ?_
        show AW G lo ce sl 401 [(0, .ref b), (1, .ref (lo + x1)), (2, .ref (lo + x2)), (3, .int x3)] [.int r220] h218
        refine a_aload_n C dL_law_401 rfl 2 rfl ?_
        obtain ⟨u233, ec232, e⟩ := bA_some e
        obtain ⟨fs231, eo230⟩ := isC_some ec232
        obtain ⟨r229, h227, e228, e⟩ := b2_some e
        refine a_callV (as := []) (rest := [.int r220]) C m_X12_undo im_X12_undo cb11 se_X12_X12_undo_X12_undo ml_L_48 rfl (Nat.le_of_ble_eq_true rfl) (Nat.le_of_ble_eq_true rfl) (by show ce ≤ (600000 : Nat); omega) (by show sl ≤ (7302250 : Nat); omega) (Nat.le_of_ble_eq_true rfl) dL_law_402 eo230 (k_X12_undo e228) rfl ?_
        show AW G lo ce sl 405 [(0, .ref b), (1, .ref (lo + x1)), (2, .ref (lo + x2)), (3, .int x3)] [.int r229, .int r220] h227
        refine a_icmp_eq (tgt := 1235) C dL_law_405 (by decide) (fun c236 => ?_) (fun c236 => ?_)
        · have e := ip c236 e
          refine a_iinc (v := x3 + (7 : Int32)) (lv2 := [(3, .int (x3 + (7 : Int32))), (0, .ref b), (1, .ref (lo + x1)), (2, .ref (lo + x2))]) C dL_law_1235 3 rfl rfl (by decide) rfl ?_
          refine a_goto (tgt := 18) C dL_law_1238 (by decide) ?_
          exact a_sub [1, 2, 3, 0] rfl (a_widen (ce2 := ce + 120) (sl2 := sl + 480) (by omega) (by omega) (ih _ _ _ _ (by omega) (by omega) e))
        · have e := iN c236 e
          refine a_iconst (v := (0 : Int32)) C dL_law_408 (by decide) ?_
          exact absurd (sp2 e).1 (by decide)
      have e := iN c217 e
      by_cases c237 : x24 = (8 : Int32)
      · have e := ip c237 e
        refine a_tableIn (tgt := 410) C dL_law_33 (by rw [c237]; decide) (by rw [c237]; decide) (by rw [c237]; first | done | rfl) (by decide) ?_
        refine a_aload_n C dL_law_410 rfl 1 rfl ?_
        refine a_aload_n C dL_law_411 rfl 0 rfl ?_
        refine a_iload_n C dL_law_412 rfl 3 rfl ?_
        refine a_iconst (v := (1 : Int32)) C dL_law_413 (by decide) ?_
        refine a_iadd C dL_law_414 ?_
        obtain ⟨v238, e239, e⟩ := bA_some e
        refine a_sld C X dL_law_415 e239 ?_
        refine a_aload_n C dL_law_416 rfl 0 rfl ?_
        refine a_iload_n C dL_law_417 rfl 3 rfl ?_
        refine a_iconst (v := (2 : Int32)) C dL_law_418 (by decide) ?_
        refine a_iadd C dL_law_419 ?_
        obtain ⟨v240, e241, e⟩ := bA_some e
        refine a_sld C X dL_law_420 e241 ?_
        refine a_aload_n C dL_law_421 rfl 0 rfl ?_
        refine a_iload_n C dL_law_422 rfl 3 rfl ?_
        refine a_iconst (v := (3 : Int32)) C dL_law_423 (by decide) ?_
        refine a_iadd C dL_law_424 ?_
        obtain ⟨v242, e243, e⟩ := bA_some e
        refine a_sld C X dL_law_425 e243 ?_
        obtain ⟨u250, ec249, e⟩ := bA_some e
        obtain ⟨fs248, eo247⟩ := isC_some ec249
        obtain ⟨r246, h244, e245, e⟩ := b2_some e
        refine a_callV (as := [.int v238, .int v240, .int v242]) (rest := []) C m_X11_errand im_X11_errand cb10 se_X11_X11_errand_X11_errand ml_L_49 rfl (Nat.le_of_ble_eq_true rfl) (Nat.le_of_ble_eq_true rfl) (by show ce ≤ (600000 : Nat); omega) (by show sl ≤ (7302250 : Nat); omega) (Nat.le_of_ble_eq_true rfl) dL_law_426 eo247 (k_X11_errand e245) rfl ?_
        show AW G lo ce sl 429 [(0, .ref b), (1, .ref (lo + x1)), (2, .ref (lo + x2)), (3, .int x3)] [.int r246] h244
        refine a_aload_n C dL_law_429 rfl 2 rfl ?_
        refine a_aload_n C dL_law_430 rfl 0 rfl ?_
        refine a_iload_n C dL_law_431 rfl 3 rfl ?_
        refine a_iconst (v := (1 : Int32)) C dL_law_432 (by decide) ?_
        refine a_iadd C dL_law_433 ?_
        obtain ⟨v253, e254, e⟩ := bA_some e
        refine a_sld C X dL_law_434 e254 ?_
        refine a_aload_n C dL_law_435 rfl 0 rfl ?_
        refine a_iload_n C dL_law_436 rfl 3 rfl ?_
        refine a_iconst (v := (2 : Int32)) C dL_law_437 (by decide) ?_
        refine a_iadd C dL_law_438 ?_
        obtain ⟨v255, e256, e⟩ := bA_some e
        refine a_sld C X dL_law_439 e256 ?_
        refine a_aload_n C dL_law_440 rfl 0 rfl ?_
        refine a_iload_n C dL_law_441 rfl 3 rfl ?_
        refine a_iconst (v := (3 : Int32)) C dL_law_442 (by decide) ?_
        refine a_iadd C dL_law_443 ?_
        obtain ⟨v257, e258, e⟩ := bA_some e
        refine a_sld C X dL_law_444 e258 ?_
        obtain ⟨u265, ec264, e⟩ := bA_some e
        obtain ⟨fs263, eo262⟩ := isC_some ec264
        obtain ⟨r261, h259, e260, e⟩ := b2_some e
        refine a_callV (as := [.int v253, .int v255, .int v257]) (rest := [.int r246]) C m_X12_errand im_X12_errand cb11 se_X12_X12_errand_X12_errand ml_L_52 rfl (Nat.le_of_ble_eq_true rfl) (Nat.le_of_ble_eq_true rfl) (by show ce ≤ (600000 : Nat); omega) (by show sl ≤ (7302250 : Nat); omega) (Nat.le_of_ble_eq_true rfl) dL_law_445 eo262 (k_X12_errand e260) rfl ?_
        show AW G lo ce sl 448 [(0, .ref b), (1, .ref (lo + x1)), (2, .ref (lo + x2)), (3, .int x3)] [.int r261, .int r246] h259
        refine a_icmp_eq (tgt := 1235) C dL_law_448 (by decide) (fun c268 => ?_) (fun c268 => ?_)
        · have e := ip c268 e
          refine a_iinc (v := x3 + (7 : Int32)) (lv2 := [(3, .int (x3 + (7 : Int32))), (0, .ref b), (1, .ref (lo + x1)), (2, .ref (lo + x2))]) C dL_law_1235 3 rfl rfl (by decide) rfl ?_
          refine a_goto (tgt := 18) C dL_law_1238 (by decide) ?_
          exact a_sub [1, 2, 3, 0] rfl (a_widen (ce2 := ce + 120) (sl2 := sl + 480) (by omega) (by omega) (ih _ _ _ _ (by omega) (by omega) e))
        · have e := iN c268 e
          refine a_iconst (v := (0 : Int32)) C dL_law_451 (by decide) ?_
          exact absurd (sp2 e).1 (by decide)
      have e := iN c237 e
      by_cases c269 : x24 = (9 : Int32)
      · have e := ip c269 e
        refine a_tableIn (tgt := 453) C dL_law_33 (by rw [c269]; decide) (by rw [c269]; decide) (by rw [c269]; first | done | rfl) (by decide) ?_
        refine a_aload_n C dL_law_453 rfl 1 rfl ?_
        refine a_aload_n C dL_law_454 rfl 0 rfl ?_
        refine a_iload_n C dL_law_455 rfl 3 rfl ?_
        refine a_iconst (v := (1 : Int32)) C dL_law_456 (by decide) ?_
        refine a_iadd C dL_law_457 ?_
        obtain ⟨v270, e271, e⟩ := bA_some e
        refine a_sld C X dL_law_458 e271 ?_
        obtain ⟨u278, ec277, e⟩ := bA_some e
        obtain ⟨fs276, eo275⟩ := isC_some ec277
        obtain ⟨r274, h272, e273, e⟩ := b2_some e
        refine a_callV (as := [.int v270]) (rest := []) C m_X11_ledger im_X11_ledger cb10 se_X11_X11_ledger_X11_ledger ml_L_53 rfl (Nat.le_of_ble_eq_true rfl) (Nat.le_of_ble_eq_true rfl) (by show ce ≤ (600000 : Nat); omega) (by show sl ≤ (7302250 : Nat); omega) (Nat.le_of_ble_eq_true rfl) dL_law_459 eo275 (k_X11_ledger e273) rfl ?_
        show AW G lo ce sl 462 [(0, .ref b), (1, .ref (lo + x1)), (2, .ref (lo + x2)), (3, .int x3)] [.int r274] h272
        refine a_aload_n C dL_law_462 rfl 2 rfl ?_
        refine a_aload_n C dL_law_463 rfl 0 rfl ?_
        refine a_iload_n C dL_law_464 rfl 3 rfl ?_
        refine a_iconst (v := (1 : Int32)) C dL_law_465 (by decide) ?_
        refine a_iadd C dL_law_466 ?_
        obtain ⟨v281, e282, e⟩ := bA_some e
        refine a_sld C X dL_law_467 e282 ?_
        obtain ⟨u289, ec288, e⟩ := bA_some e
        obtain ⟨fs287, eo286⟩ := isC_some ec288
        obtain ⟨r285, h283, e284, e⟩ := b2_some e
        refine a_callV (as := [.int v281]) (rest := [.int r274]) C m_X12_ledger im_X12_ledger cb11 se_X12_X12_ledger_X12_ledger ml_L_56 rfl (Nat.le_of_ble_eq_true rfl) (Nat.le_of_ble_eq_true rfl) (by show ce ≤ (600000 : Nat); omega) (by show sl ≤ (7302250 : Nat); omega) (Nat.le_of_ble_eq_true rfl) dL_law_468 eo286 (k_X12_ledger e284) rfl ?_
        show AW G lo ce sl 471 [(0, .ref b), (1, .ref (lo + x1)), (2, .ref (lo + x2)), (3, .int x3)] [.int r285, .int r274] h283
        refine a_icmp_eq (tgt := 1235) C dL_law_471 (by decide) (fun c292 => ?_) (fun c292 => ?_)
        · have e := ip c292 e
          refine a_iinc (v := x3 + (7 : Int32)) (lv2 := [(3, .int (x3 + (7 : Int32))), (0, .ref b), (1, .ref (lo + x1)), (2, .ref (lo + x2))]) C dL_law_1235 3 rfl rfl (by decide) rfl ?_
          refine a_goto (tgt := 18) C dL_law_1238 (by decide) ?_
          exact a_sub [1, 2, 3, 0] rfl (a_widen (ce2 := ce + 120) (sl2 := sl + 480) (by omega) (by omega) (ih _ _ _ _ (by omega) (by omega) e))
        · have e := iN c292 e
          refine a_iconst (v := (0 : Int32)) C dL_law_474 (by decide) ?_
          exact absurd (sp2 e).1 (by decide)
      have e := iN c269 e
      by_cases c293 : x24 = (10 : Int32)
      · have e := ip c293 e
        refine a_tableIn (tgt := 476) C dL_law_33 (by rw [c293]; decide) (by rw [c293]; decide) (by rw [c293]; first | done | rfl) (by decide) ?_
        refine a_aload_n C dL_law_476 rfl 1 rfl ?_
        refine a_aload_n C dL_law_477 rfl 0 rfl ?_
        refine a_iload_n C dL_law_478 rfl 3 rfl ?_
        refine a_iconst (v := (1 : Int32)) C dL_law_479 (by decide) ?_
        refine a_iadd C dL_law_480 ?_
        obtain ⟨v294, e295, e⟩ := bA_some e
        refine a_sld C X dL_law_481 e295 ?_
        obtain ⟨u302, ec301, e⟩ := bA_some e
        obtain ⟨fs300, eo299⟩ := isC_some ec301
        obtain ⟨r298, h296, e297, e⟩ := b2_some e
        refine a_callV (as := [.int v294]) (rest := []) C m_X11_oil im_X11_oil cb10 se_X11_X11_oil_X11_oil ml_L_57 rfl (Nat.le_of_ble_eq_true rfl) (Nat.le_of_ble_eq_true rfl) (by show ce ≤ (600000 : Nat); omega) (by show sl ≤ (7302250 : Nat); omega) (Nat.le_of_ble_eq_true rfl) dL_law_482 eo299 (k_X11_oil e297) rfl ?_
        show AW G lo ce sl 485 [(0, .ref b), (1, .ref (lo + x1)), (2, .ref (lo + x2)), (3, .int x3)] [.int r298] h296
        refine a_aload_n C dL_law_485 rfl 2 rfl ?_
        refine a_aload_n C dL_law_486 rfl 0 rfl ?_
        refine a_iload_n C dL_law_487 rfl 3 rfl ?_
        refine a_iconst (v := (1 : Int32)) C dL_law_488 (by decide) ?_
        refine a_iadd C dL_law_489 ?_
        obtain ⟨v305, e306, e⟩ := bA_some e
        refine a_sld C X dL_law_490 e306 ?_
        obtain ⟨u313, ec312, e⟩ := bA_some e
        obtain ⟨fs311, eo310⟩ := isC_some ec312
        obtain ⟨r309, h307, e308, e⟩ := b2_some e
        refine a_callV (as := [.int v305]) (rest := [.int r298]) C m_X12_oil im_X12_oil cb11 se_X12_X12_oil_X12_oil ml_L_60 rfl (Nat.le_of_ble_eq_true rfl) (Nat.le_of_ble_eq_true rfl) (by show ce ≤ (600000 : Nat); omega) (by show sl ≤ (7302250 : Nat); omega) (Nat.le_of_ble_eq_true rfl) dL_law_491 eo310 (k_X12_oil e308) rfl ?_
        show AW G lo ce sl 494 [(0, .ref b), (1, .ref (lo + x1)), (2, .ref (lo + x2)), (3, .int x3)] [.int r309, .int r298] h307
        refine a_icmp_eq (tgt := 1235) C dL_law_494 (by decide) (fun c316 => ?_) (fun c316 => ?_)
        · have e := ip c316 e
          refine a_iinc (v := x3 + (7 : Int32)) (lv2 := [(3, .int (x3 + (7 : Int32))), (0, .ref b), (1, .ref (lo + x1)), (2, .ref (lo + x2))]) C dL_law_1235 3 rfl rfl (by decide) rfl ?_
          refine a_goto (tgt := 18) C dL_law_1238 (by decide) ?_
          exact a_sub [1, 2, 3, 0] rfl (a_widen (ce2 := ce + 120) (sl2 := sl + 480) (by omega) (by omega) (ih _ _ _ _ (by omega) (by omega) e))
        · have e := iN c316 e
          refine a_iconst (v := (0 : Int32)) C dL_law_497 (by decide) ?_
          exact absurd (sp2 e).1 (by decide)
      have e := iN c293 e
      by_cases c317 : x24 = (11 : Int32)
      · have e := ip c317 e
        refine a_tableIn (tgt := 499) C dL_law_33 (by rw [c317]; decide) (by rw [c317]; decide) (by rw [c317]; first | done | rfl) (by decide) ?_
        refine a_aload_n C dL_law_499 rfl 1 rfl ?_
        refine a_aload_n C dL_law_500 rfl 0 rfl ?_
        refine a_iload_n C dL_law_501 rfl 3 rfl ?_
        refine a_iconst (v := (1 : Int32)) C dL_law_502 (by decide) ?_
        refine a_iadd C dL_law_503 ?_
        obtain ⟨v318, e319, e⟩ := bA_some e
        refine a_sld C X dL_law_504 e319 ?_
        refine a_aload_n C dL_law_505 rfl 0 rfl ?_
        refine a_iload_n C dL_law_506 rfl 3 rfl ?_
        refine a_iconst (v := (2 : Int32)) C dL_law_507 (by decide) ?_
        refine a_iadd C dL_law_508 ?_
        obtain ⟨v320, e321, e⟩ := bA_some e
        refine a_sld C X dL_law_509 e321 ?_
        obtain ⟨u328, ec327, e⟩ := bA_some e
        obtain ⟨fs326, eo325⟩ := isC_some ec327
        obtain ⟨r324, h322, e323, e⟩ := b2_some e
        refine a_callV (as := [.int v318, .int v320]) (rest := []) C m_X11_bring im_X11_bring cb10 se_X11_X11_bring_X11_bring ml_L_61 rfl (Nat.le_of_ble_eq_true rfl) (Nat.le_of_ble_eq_true rfl) (by show ce ≤ (600000 : Nat); omega) (by show sl ≤ (7302250 : Nat); omega) (Nat.le_of_ble_eq_true rfl) dL_law_510 eo325 (k_X11_bring e323) rfl ?_
        show AW G lo ce sl 513 [(0, .ref b), (1, .ref (lo + x1)), (2, .ref (lo + x2)), (3, .int x3)] [.int r324] h322
        refine a_aload_n C dL_law_513 rfl 2 rfl ?_
        refine a_aload_n C dL_law_514 rfl 0 rfl ?_
        refine a_iload_n C dL_law_515 rfl 3 rfl ?_
        refine a_iconst (v := (1 : Int32)) C dL_law_516 (by decide) ?_
        refine a_iadd C dL_law_517 ?_
        obtain ⟨v331, e332, e⟩ := bA_some e
        refine a_sld C X dL_law_518 e332 ?_
        refine a_aload_n C dL_law_519 rfl 0 rfl ?_
        refine a_iload_n C dL_law_520 rfl 3 rfl ?_
        refine a_iconst (v := (2 : Int32)) C dL_law_521 (by decide) ?_
        refine a_iadd C dL_law_522 ?_
        obtain ⟨v333, e334, e⟩ := bA_some e
        refine a_sld C X dL_law_523 e334 ?_
        obtain ⟨u341, ec340, e⟩ := bA_some e
        obtain ⟨fs339, eo338⟩ := isC_some ec340
        obtain ⟨r337, h335, e336, e⟩ := b2_some e
        refine a_callV (as := [.int v331, .int v333]) (rest := [.int r324]) C m_X12_bring im_X12_bring cb11 se_X12_X12_bring_X12_bring ml_L_65 rfl (Nat.le_of_ble_eq_true rfl) (Nat.le_of_ble_eq_true rfl) (by show ce ≤ (600000 : Nat); omega) (by show sl ≤ (7302250 : Nat); omega) (Nat.le_of_ble_eq_true rfl) dL_law_524 eo338 (k_X12_bring e336) rfl ?_
        show AW G lo ce sl 527 [(0, .ref b), (1, .ref (lo + x1)), (2, .ref (lo + x2)), (3, .int x3)] [.int r337, .int r324] h335
        refine a_icmp_eq (tgt := 1235) C dL_law_527 (by decide) (fun c344 => ?_) (fun c344 => ?_)
        · have e := ip c344 e
          refine a_iinc (v := x3 + (7 : Int32)) (lv2 := [(3, .int (x3 + (7 : Int32))), (0, .ref b), (1, .ref (lo + x1)), (2, .ref (lo + x2))]) C dL_law_1235 3 rfl rfl (by decide) rfl ?_
          refine a_goto (tgt := 18) C dL_law_1238 (by decide) ?_
          exact a_sub [1, 2, 3, 0] rfl (a_widen (ce2 := ce + 120) (sl2 := sl + 480) (by omega) (by omega) (ih _ _ _ _ (by omega) (by omega) e))
        · have e := iN c344 e
          refine a_iconst (v := (0 : Int32)) C dL_law_530 (by decide) ?_
          exact absurd (sp2 e).1 (by decide)
      have e := iN c317 e
      by_cases c345 : x24 = (12 : Int32)
      · have e := ip c345 e
        refine a_tableIn (tgt := 532) C dL_law_33 (by rw [c345]; decide) (by rw [c345]; decide) (by rw [c345]; first | done | rfl) (by decide) ?_
        refine a_aload_n C dL_law_532 rfl 1 rfl ?_
        refine a_aload_n C dL_law_533 rfl 0 rfl ?_
        refine a_iload_n C dL_law_534 rfl 3 rfl ?_
        refine a_iconst (v := (1 : Int32)) C dL_law_535 (by decide) ?_
        refine a_iadd C dL_law_536 ?_
        obtain ⟨v346, e347, e⟩ := bA_some e
        refine a_sld C X dL_law_537 e347 ?_
        refine a_aload_n C dL_law_538 rfl 0 rfl ?_
        refine a_iload_n C dL_law_539 rfl 3 rfl ?_
        refine a_iconst (v := (2 : Int32)) C dL_law_540 (by decide) ?_
        refine a_iadd C dL_law_541 ?_
        obtain ⟨v348, e349, e⟩ := bA_some e
        refine a_sld C X dL_law_542 e349 ?_
        obtain ⟨u356, ec355, e⟩ := bA_some e
        obtain ⟨fs354, eo353⟩ := isC_some ec355
        obtain ⟨r352, h350, e351, e⟩ := b2_some e
        refine a_callV (as := [.int v346, .int v348]) (rest := []) C m_X11_rule im_X11_rule cb10 se_X11_X11_rule_X11_rule ml_L_66 rfl (Nat.le_of_ble_eq_true rfl) (Nat.le_of_ble_eq_true rfl) (by show ce ≤ (600000 : Nat); omega) (by show sl ≤ (7302250 : Nat); omega) (Nat.le_of_ble_eq_true rfl) dL_law_543 eo353 (k_X11_rule e351) rfl ?_
        show AW G lo ce sl 546 [(0, .ref b), (1, .ref (lo + x1)), (2, .ref (lo + x2)), (3, .int x3)] [.int r352] h350
        refine a_aload_n C dL_law_546 rfl 2 rfl ?_
        refine a_aload_n C dL_law_547 rfl 0 rfl ?_
        refine a_iload_n C dL_law_548 rfl 3 rfl ?_
        refine a_iconst (v := (1 : Int32)) C dL_law_549 (by decide) ?_
        refine a_iadd C dL_law_550 ?_
        obtain ⟨v359, e360, e⟩ := bA_some e
        refine a_sld C X dL_law_551 e360 ?_
        refine a_aload_n C dL_law_552 rfl 0 rfl ?_
        refine a_iload_n C dL_law_553 rfl 3 rfl ?_
        refine a_iconst (v := (2 : Int32)) C dL_law_554 (by decide) ?_
        refine a_iadd C dL_law_555 ?_
        obtain ⟨v361, e362, e⟩ := bA_some e
        refine a_sld C X dL_law_556 e362 ?_
        obtain ⟨u369, ec368, e⟩ := bA_some e
        obtain ⟨fs367, eo366⟩ := isC_some ec368
        obtain ⟨r365, h363, e364, e⟩ := b2_some e
        refine a_callV (as := [.int v359, .int v361]) (rest := [.int r352]) C m_X12_rule im_X12_rule cb11 se_X12_X12_rule_X12_rule ml_L_69 rfl (Nat.le_of_ble_eq_true rfl) (Nat.le_of_ble_eq_true rfl) (by show ce ≤ (600000 : Nat); omega) (by show sl ≤ (7302250 : Nat); omega) (Nat.le_of_ble_eq_true rfl) dL_law_557 eo366 (k_X12_rule e364) rfl ?_
        show AW G lo ce sl 560 [(0, .ref b), (1, .ref (lo + x1)), (2, .ref (lo + x2)), (3, .int x3)] [.int r365, .int r352] h363
        refine a_icmp_eq (tgt := 1235) C dL_law_560 (by decide) (fun c372 => ?_) (fun c372 => ?_)
        · have e := ip c372 e
          refine a_iinc (v := x3 + (7 : Int32)) (lv2 := [(3, .int (x3 + (7 : Int32))), (0, .ref b), (1, .ref (lo + x1)), (2, .ref (lo + x2))]) C dL_law_1235 3 rfl rfl (by decide) rfl ?_
          refine a_goto (tgt := 18) C dL_law_1238 (by decide) ?_
          exact a_sub [1, 2, 3, 0] rfl (a_widen (ce2 := ce + 120) (sl2 := sl + 480) (by omega) (by omega) (ih _ _ _ _ (by omega) (by omega) e))
        · have e := iN c372 e
          refine a_iconst (v := (0 : Int32)) C dL_law_563 (by decide) ?_
          exact absurd (sp2 e).1 (by decide)
      have e := iN c345 e
      by_cases c373 : x24 = (13 : Int32)
      · have e := ip c373 e
        refine a_tableIn (tgt := 565) C dL_law_33 (by rw [c373]; decide) (by rw [c373]; decide) (by rw [c373]; first | done | rfl) (by decide) ?_
        refine a_aload_n C dL_law_565 rfl 1 rfl ?_
        refine a_aload_n C dL_law_566 rfl 0 rfl ?_
        refine a_iload_n C dL_law_567 rfl 3 rfl ?_
        refine a_iconst (v := (1 : Int32)) C dL_law_568 (by decide) ?_
        refine a_iadd C dL_law_569 ?_
        obtain ⟨v374, e375, e⟩ := bA_some e
        refine a_sld C X dL_law_570 e375 ?_
        refine a_aload_n C dL_law_571 rfl 0 rfl ?_
        refine a_iload_n C dL_law_572 rfl 3 rfl ?_
        refine a_iconst (v := (2 : Int32)) C dL_law_573 (by decide) ?_
        refine a_iadd C dL_law_574 ?_
        obtain ⟨v376, e377, e⟩ := bA_some e
        refine a_sld C X dL_law_575 e377 ?_
        obtain ⟨u384, ec383, e⟩ := bA_some e
        obtain ⟨fs382, eo381⟩ := isC_some ec383
        obtain ⟨r380, h378, e379, e⟩ := b2_some e
        refine a_callV (as := [.int v374, .int v376]) (rest := []) C m_X11_door im_X11_door cb10 se_X11_X11_door_X11_door ml_L_70 rfl (Nat.le_of_ble_eq_true rfl) (Nat.le_of_ble_eq_true rfl) (by show ce ≤ (600000 : Nat); omega) (by show sl ≤ (7302250 : Nat); omega) (Nat.le_of_ble_eq_true rfl) dL_law_576 eo381 (k_X11_door e379) rfl ?_
        show AW G lo ce sl 579 [(0, .ref b), (1, .ref (lo + x1)), (2, .ref (lo + x2)), (3, .int x3)] [.int r380] h378
        refine a_aload_n C dL_law_579 rfl 2 rfl ?_
        refine a_aload_n C dL_law_580 rfl 0 rfl ?_
        refine a_iload_n C dL_law_581 rfl 3 rfl ?_
        refine a_iconst (v := (1 : Int32)) C dL_law_582 (by decide) ?_
        refine a_iadd C dL_law_583 ?_
        obtain ⟨v387, e388, e⟩ := bA_some e
        refine a_sld C X dL_law_584 e388 ?_
        refine a_aload_n C dL_law_585 rfl 0 rfl ?_
        refine a_iload_n C dL_law_586 rfl 3 rfl ?_
        refine a_iconst (v := (2 : Int32)) C dL_law_587 (by decide) ?_
        refine a_iadd C dL_law_588 ?_
        obtain ⟨v389, e390, e⟩ := bA_some e
        refine a_sld C X dL_law_589 e390 ?_
        obtain ⟨u397, ec396, e⟩ := bA_some e
        obtain ⟨fs395, eo394⟩ := isC_some ec396
        obtain ⟨r393, h391, e392, e⟩ := b2_some e
        refine a_callV (as := [.int v387, .int v389]) (rest := [.int r380]) C m_X12_door im_X12_door cb11 se_X12_X12_door_X12_door ml_L_73 rfl (Nat.le_of_ble_eq_true rfl) (Nat.le_of_ble_eq_true rfl) (by show ce ≤ (600000 : Nat); omega) (by show sl ≤ (7302250 : Nat); omega) (Nat.le_of_ble_eq_true rfl) dL_law_590 eo394 (k_X12_door e392) rfl ?_
        show AW G lo ce sl 593 [(0, .ref b), (1, .ref (lo + x1)), (2, .ref (lo + x2)), (3, .int x3)] [.int r393, .int r380] h391
        refine a_icmp_eq (tgt := 1235) C dL_law_593 (by decide) (fun c400 => ?_) (fun c400 => ?_)
        · have e := ip c400 e
          refine a_iinc (v := x3 + (7 : Int32)) (lv2 := [(3, .int (x3 + (7 : Int32))), (0, .ref b), (1, .ref (lo + x1)), (2, .ref (lo + x2))]) C dL_law_1235 3 rfl rfl (by decide) rfl ?_
          refine a_goto (tgt := 18) C dL_law_1238 (by decide) ?_
          exact a_sub [1, 2, 3, 0] rfl (a_widen (ce2 := ce + 120) (sl2 := sl + 480) (by omega) (by omega) (ih _ _ _ _ (by omega) (by omega) e))
        · have e := iN c400 e
          refine a_iconst (v := (0 : Int32)) C dL_law_596 (by decide) ?_
          exact absurd (sp2 e).1 (by decide)
      have e := iN c373 e
      by_cases c401 : x24 = (14 : Int32)
      · have e := ip c401 e
        refine a_tableIn (tgt := 598) C dL_law_33 (by rw [c401]; decide) (by rw [c401]; decide) (by rw [c401]; first | done | rfl) (by decide) ?_
        refine a_aload_n C dL_law_598 rfl 1 rfl ?_
        refine a_aload_n C dL_law_599 rfl 0 rfl ?_
        refine a_iload_n C dL_law_600 rfl 3 rfl ?_
        refine a_iconst (v := (1 : Int32)) C dL_law_601 (by decide) ?_
        refine a_iadd C dL_law_602 ?_
        obtain ⟨v402, e403, e⟩ := bA_some e
        refine a_sld C X dL_law_603 e403 ?_
        refine a_aload_n C dL_law_604 rfl 0 rfl ?_
        refine a_iload_n C dL_law_605 rfl 3 rfl ?_
        refine a_iconst (v := (2 : Int32)) C dL_law_606 (by decide) ?_
        refine a_iadd C dL_law_607 ?_
        obtain ⟨v404, e405, e⟩ := bA_some e
        refine a_sld C X dL_law_608 e405 ?_
        obtain ⟨u412, ec411, e⟩ := bA_some e
        obtain ⟨fs410, eo409⟩ := isC_some ec411
        obtain ⟨r408, h406, e407, e⟩ := b2_some e
        refine a_callV (as := [.int v402, .int v404]) (rest := []) C m_X11_room im_X11_room cb10 se_X11_X11_room_X11_room ml_L_74 rfl (Nat.le_of_ble_eq_true rfl) (Nat.le_of_ble_eq_true rfl) (by show ce ≤ (600000 : Nat); omega) (by show sl ≤ (7302250 : Nat); omega) (Nat.le_of_ble_eq_true rfl) dL_law_609 eo409 (k_X11_room e407) rfl ?_
        show AW G lo ce sl 612 [(0, .ref b), (1, .ref (lo + x1)), (2, .ref (lo + x2)), (3, .int x3)] [.int r408] h406
        refine a_aload_n C dL_law_612 rfl 2 rfl ?_
        refine a_aload_n C dL_law_613 rfl 0 rfl ?_
        refine a_iload_n C dL_law_614 rfl 3 rfl ?_
        refine a_iconst (v := (1 : Int32)) C dL_law_615 (by decide) ?_
        refine a_iadd C dL_law_616 ?_
        obtain ⟨v415, e416, e⟩ := bA_some e
        refine a_sld C X dL_law_617 e416 ?_
        refine a_aload_n C dL_law_618 rfl 0 rfl ?_
        refine a_iload_n C dL_law_619 rfl 3 rfl ?_
        refine a_iconst (v := (2 : Int32)) C dL_law_620 (by decide) ?_
        refine a_iadd C dL_law_621 ?_
        obtain ⟨v417, e418, e⟩ := bA_some e
        refine a_sld C X dL_law_622 e418 ?_
        obtain ⟨u425, ec424, e⟩ := bA_some e
        obtain ⟨fs423, eo422⟩ := isC_some ec424
        obtain ⟨r421, h419, e420, e⟩ := b2_some e
        refine a_callV (as := [.int v415, .int v417]) (rest := [.int r408]) C m_X12_room im_X12_room cb11 se_X12_X12_room_X12_room ml_L_77 rfl (Nat.le_of_ble_eq_true rfl) (Nat.le_of_ble_eq_true rfl) (by show ce ≤ (600000 : Nat); omega) (by show sl ≤ (7302250 : Nat); omega) (Nat.le_of_ble_eq_true rfl) dL_law_623 eo422 (k_X12_room e420) rfl ?_
        show AW G lo ce sl 626 [(0, .ref b), (1, .ref (lo + x1)), (2, .ref (lo + x2)), (3, .int x3)] [.int r421, .int r408] h419
        refine a_icmp_eq (tgt := 1235) C dL_law_626 (by decide) (fun c428 => ?_) (fun c428 => ?_)
        · have e := ip c428 e
          refine a_iinc (v := x3 + (7 : Int32)) (lv2 := [(3, .int (x3 + (7 : Int32))), (0, .ref b), (1, .ref (lo + x1)), (2, .ref (lo + x2))]) C dL_law_1235 3 rfl rfl (by decide) rfl ?_
          refine a_goto (tgt := 18) C dL_law_1238 (by decide) ?_
          exact a_sub [1, 2, 3, 0] rfl (a_widen (ce2 := ce + 120) (sl2 := sl + 480) (by omega) (by omega) (ih _ _ _ _ (by omega) (by omega) e))
        · have e := iN c428 e
          refine a_iconst (v := (0 : Int32)) C dL_law_629 (by decide) ?_
          exact absurd (sp2 e).1 (by decide)
      have e := iN c401 e
      by_cases c429 : x24 = (15 : Int32)
      · have e := ip c429 e
        refine a_tableIn (tgt := 631) C dL_law_33 (by rw [c429]; decide) (by rw [c429]; decide) (by rw [c429]; first | done | rfl) (by decide) ?_
        refine a_aload_n C dL_law_631 rfl 1 rfl ?_
        refine a_aload_n C dL_law_632 rfl 0 rfl ?_
        refine a_iload_n C dL_law_633 rfl 3 rfl ?_
        refine a_iconst (v := (1 : Int32)) C dL_law_634 (by decide) ?_
        refine a_iadd C dL_law_635 ?_
        obtain ⟨v430, e431, e⟩ := bA_some e
        refine a_sld C X dL_law_636 e431 ?_
        refine a_aload_n C dL_law_637 rfl 0 rfl ?_
        refine a_iload_n C dL_law_638 rfl 3 rfl ?_
        refine a_iconst (v := (2 : Int32)) C dL_law_639 (by decide) ?_
        refine a_iadd C dL_law_640 ?_
        obtain ⟨v432, e433, e⟩ := bA_some e
        refine a_sld C X dL_law_641 e433 ?_
        refine a_aload_n C dL_law_642 rfl 0 rfl ?_
        refine a_iload_n C dL_law_643 rfl 3 rfl ?_
        refine a_iconst (v := (3 : Int32)) C dL_law_644 (by decide) ?_
        refine a_iadd C dL_law_645 ?_
        obtain ⟨v434, e435, e⟩ := bA_some e
        refine a_sld C X dL_law_646 e435 ?_
        refine a_aload_n C dL_law_647 rfl 0 rfl ?_
        refine a_iload_n C dL_law_648 rfl 3 rfl ?_
        refine a_iconst (v := (4 : Int32)) C dL_law_649 (by decide) ?_
        refine a_iadd C dL_law_650 ?_
        obtain ⟨v436, e437, e⟩ := bA_some e
        refine a_sld C X dL_law_651 e437 ?_
        obtain ⟨u444, ec443, e⟩ := bA_some e
        obtain ⟨fs442, eo441⟩ := isC_some ec443
        obtain ⟨r440, h438, e439, e⟩ := b2_some e
        refine a_callV (as := [.int v430, .int v432, .int v434, .int v436]) (rest := []) C m_X11_would im_X11_would cb10 se_X11_X11_would_X11_would ml_L_78 rfl (Nat.le_of_ble_eq_true rfl) (Nat.le_of_ble_eq_true rfl) (by show ce ≤ (600000 : Nat); omega) (by show sl ≤ (7302250 : Nat); omega) (Nat.le_of_ble_eq_true rfl) dL_law_652 eo441 (k_X11_would e439) rfl ?_
        show AW G lo ce sl 655 [(0, .ref b), (1, .ref (lo + x1)), (2, .ref (lo + x2)), (3, .int x3)] [.int r440] h438
        refine a_aload_n C dL_law_655 rfl 2 rfl ?_
        refine a_aload_n C dL_law_656 rfl 0 rfl ?_
        refine a_iload_n C dL_law_657 rfl 3 rfl ?_
        refine a_iconst (v := (1 : Int32)) C dL_law_658 (by decide) ?_
        refine a_iadd C dL_law_659 ?_
        obtain ⟨v447, e448, e⟩ := bA_some e
        refine a_sld C X dL_law_660 e448 ?_
        refine a_aload_n C dL_law_661 rfl 0 rfl ?_
        refine a_iload_n C dL_law_662 rfl 3 rfl ?_
        refine a_iconst (v := (2 : Int32)) C dL_law_663 (by decide) ?_
        refine a_iadd C dL_law_664 ?_
        obtain ⟨v449, e450, e⟩ := bA_some e
        refine a_sld C X dL_law_665 e450 ?_
        refine a_aload_n C dL_law_666 rfl 0 rfl ?_
        refine a_iload_n C dL_law_667 rfl 3 rfl ?_
        refine a_iconst (v := (3 : Int32)) C dL_law_668 (by decide) ?_
        refine a_iadd C dL_law_669 ?_
        obtain ⟨v451, e452, e⟩ := bA_some e
        refine a_sld C X dL_law_670 e452 ?_
        refine a_aload_n C dL_law_671 rfl 0 rfl ?_
        refine a_iload_n C dL_law_672 rfl 3 rfl ?_
        refine a_iconst (v := (4 : Int32)) C dL_law_673 (by decide) ?_
        refine a_iadd C dL_law_674 ?_
        obtain ⟨v453, e454, e⟩ := bA_some e
        refine a_sld C X dL_law_675 e454 ?_
        obtain ⟨u461, ec460, e⟩ := bA_some e
        obtain ⟨fs459, eo458⟩ := isC_some ec460
        obtain ⟨r457, h455, e456, e⟩ := b2_some e
        refine a_callV (as := [.int v447, .int v449, .int v451, .int v453]) (rest := [.int r440]) C m_X12_would im_X12_would cb11 se_X12_X12_would_X12_would ml_L_82 rfl (Nat.le_of_ble_eq_true rfl) (Nat.le_of_ble_eq_true rfl) (by show ce ≤ (600000 : Nat); omega) (by show sl ≤ (7302250 : Nat); omega) (Nat.le_of_ble_eq_true rfl) dL_law_676 eo458 (k_X12_would e456) rfl ?_
        show AW G lo ce sl 679 [(0, .ref b), (1, .ref (lo + x1)), (2, .ref (lo + x2)), (3, .int x3)] [.int r457, .int r440] h455
        refine a_icmp_eq (tgt := 1235) C dL_law_679 (by decide) (fun c464 => ?_) (fun c464 => ?_)
        · have e := ip c464 e
          refine a_iinc (v := x3 + (7 : Int32)) (lv2 := [(3, .int (x3 + (7 : Int32))), (0, .ref b), (1, .ref (lo + x1)), (2, .ref (lo + x2))]) C dL_law_1235 3 rfl rfl (by decide) rfl ?_
          refine a_goto (tgt := 18) C dL_law_1238 (by decide) ?_
          exact a_sub [1, 2, 3, 0] rfl (a_widen (ce2 := ce + 120) (sl2 := sl + 480) (by omega) (by omega) (ih _ _ _ _ (by omega) (by omega) e))
        · have e := iN c464 e
          refine a_iconst (v := (0 : Int32)) C dL_law_682 (by decide) ?_
          exact absurd (sp2 e).1 (by decide)
      have e := iN c429 e
      by_cases c465 : x24 = (16 : Int32)
      · have e := ip c465 e
        refine a_tableIn (tgt := 684) C dL_law_33 (by rw [c465]; decide) (by rw [c465]; decide) (by rw [c465]; first | done | rfl) (by decide) ?_
        refine a_aload_n C dL_law_684 rfl 1 rfl ?_
        refine a_aload_n C dL_law_685 rfl 0 rfl ?_
        refine a_iload_n C dL_law_686 rfl 3 rfl ?_
        refine a_iconst (v := (1 : Int32)) C dL_law_687 (by decide) ?_
        refine a_iadd C dL_law_688 ?_
        obtain ⟨v466, e467, e⟩ := bA_some e
        refine a_sld C X dL_law_689 e467 ?_
        refine a_aload_n C dL_law_690 rfl 0 rfl ?_
        refine a_iload_n C dL_law_691 rfl 3 rfl ?_
        refine a_iconst (v := (2 : Int32)) C dL_law_692 (by decide) ?_
        refine a_iadd C dL_law_693 ?_
        obtain ⟨v468, e469, e⟩ := bA_some e
        refine a_sld C X dL_law_694 e469 ?_
        obtain ⟨u476, ec475, e⟩ := bA_some e
        obtain ⟨fs474, eo473⟩ := isC_some ec475
        obtain ⟨r472, h470, e471, e⟩ := b2_some e
        refine a_callV (as := [.int v466, .int v468]) (rest := []) C m_X11_way im_X11_way cb10 se_X11_X11_way_X11_way ml_L_83 rfl (Nat.le_of_ble_eq_true rfl) (Nat.le_of_ble_eq_true rfl) (by show ce ≤ (600000 : Nat); omega) (by show sl ≤ (7302250 : Nat); omega) (Nat.le_of_ble_eq_true rfl) dL_law_695 eo473 (k_X11_way e471) rfl ?_
        show AW G lo ce sl 698 [(0, .ref b), (1, .ref (lo + x1)), (2, .ref (lo + x2)), (3, .int x3)] [.int r472] h470
        refine a_aload_n C dL_law_698 rfl 2 rfl ?_
        refine a_aload_n C dL_law_699 rfl 0 rfl ?_
        refine a_iload_n C dL_law_700 rfl 3 rfl ?_
        refine a_iconst (v := (1 : Int32)) C dL_law_701 (by decide) ?_
        refine a_iadd C dL_law_702 ?_
        obtain ⟨v479, e480, e⟩ := bA_some e
        refine a_sld C X dL_law_703 e480 ?_
        refine a_aload_n C dL_law_704 rfl 0 rfl ?_
        refine a_iload_n C dL_law_705 rfl 3 rfl ?_
        refine a_iconst (v := (2 : Int32)) C dL_law_706 (by decide) ?_
        refine a_iadd C dL_law_707 ?_
        obtain ⟨v481, e482, e⟩ := bA_some e
        refine a_sld C X dL_law_708 e482 ?_
        obtain ⟨u489, ec488, e⟩ := bA_some e
        obtain ⟨fs487, eo486⟩ := isC_some ec488
        obtain ⟨r485, h483, e484, e⟩ := b2_some e
        refine a_callV (as := [.int v479, .int v481]) (rest := [.int r472]) C m_X12_way im_X12_way cb11 se_X12_X12_way_X12_way ml_L_86 rfl (Nat.le_of_ble_eq_true rfl) (Nat.le_of_ble_eq_true rfl) (by show ce ≤ (600000 : Nat); omega) (by show sl ≤ (7302250 : Nat); omega) (Nat.le_of_ble_eq_true rfl) dL_law_709 eo486 (k_X12_way e484) rfl ?_
        show AW G lo ce sl 712 [(0, .ref b), (1, .ref (lo + x1)), (2, .ref (lo + x2)), (3, .int x3)] [.int r485, .int r472] h483
        refine a_icmp_eq (tgt := 1235) C dL_law_712 (by decide) (fun c492 => ?_) (fun c492 => ?_)
        · have e := ip c492 e
          refine a_iinc (v := x3 + (7 : Int32)) (lv2 := [(3, .int (x3 + (7 : Int32))), (0, .ref b), (1, .ref (lo + x1)), (2, .ref (lo + x2))]) C dL_law_1235 3 rfl rfl (by decide) rfl ?_
          refine a_goto (tgt := 18) C dL_law_1238 (by decide) ?_
          exact a_sub [1, 2, 3, 0] rfl (a_widen (ce2 := ce + 120) (sl2 := sl + 480) (by omega) (by omega) (ih _ _ _ _ (by omega) (by omega) e))
        · have e := iN c492 e
          refine a_iconst (v := (0 : Int32)) C dL_law_715 (by decide) ?_
          exact absurd (sp2 e).1 (by decide)
      have e := iN c465 e
      by_cases c493 : x24 = (17 : Int32)
      · have e := ip c493 e
        refine a_tableIn (tgt := 717) C dL_law_33 (by rw [c493]; decide) (by rw [c493]; decide) (by rw [c493]; first | done | rfl) (by decide) ?_
        refine a_aload_n C dL_law_717 rfl 1 rfl ?_
        refine a_aload_n C dL_law_718 rfl 0 rfl ?_
        refine a_iload_n C dL_law_719 rfl 3 rfl ?_
        refine a_iconst (v := (1 : Int32)) C dL_law_720 (by decide) ?_
        refine a_iadd C dL_law_721 ?_
        obtain ⟨v494, e495, e⟩ := bA_some e
        refine a_sld C X dL_law_722 e495 ?_
        refine a_aload_n C dL_law_723 rfl 0 rfl ?_
        refine a_iload_n C dL_law_724 rfl 3 rfl ?_
        refine a_iconst (v := (2 : Int32)) C dL_law_725 (by decide) ?_
        refine a_iadd C dL_law_726 ?_
        obtain ⟨v496, e497, e⟩ := bA_some e
        refine a_sld C X dL_law_727 e497 ?_
        refine a_aload_n C dL_law_728 rfl 0 rfl ?_
        refine a_iload_n C dL_law_729 rfl 3 rfl ?_
        refine a_iconst (v := (3 : Int32)) C dL_law_730 (by decide) ?_
        refine a_iadd C dL_law_731 ?_
        obtain ⟨v498, e499, e⟩ := bA_some e
        refine a_sld C X dL_law_732 e499 ?_
        refine a_aload_n C dL_law_733 rfl 0 rfl ?_
        refine a_iload_n C dL_law_734 rfl 3 rfl ?_
        refine a_iconst (v := (4 : Int32)) C dL_law_735 (by decide) ?_
        refine a_iadd C dL_law_736 ?_
        obtain ⟨v500, e501, e⟩ := bA_some e
        refine a_sld C X dL_law_737 e501 ?_
        obtain ⟨u508, ec507, e⟩ := bA_some e
        obtain ⟨fs506, eo505⟩ := isC_some ec507
        obtain ⟨r504, h502, e503, e⟩ := b2_some e
        refine a_callV (as := [.int v494, .int v496, .int v498, .int v500]) (rest := []) C m_X11_needs im_X11_needs cb10 se_X11_X11_needs_X11_needs ml_L_87 rfl (Nat.le_of_ble_eq_true rfl) (Nat.le_of_ble_eq_true rfl) (by show ce ≤ (600000 : Nat); omega) (by show sl ≤ (7302250 : Nat); omega) (Nat.le_of_ble_eq_true rfl) dL_law_738 eo505 (k_X11_needs e503) rfl ?_
        show AW G lo ce sl 741 [(0, .ref b), (1, .ref (lo + x1)), (2, .ref (lo + x2)), (3, .int x3)] [.int r504] h502
        refine a_aload_n C dL_law_741 rfl 2 rfl ?_
        refine a_aload_n C dL_law_742 rfl 0 rfl ?_
        refine a_iload_n C dL_law_743 rfl 3 rfl ?_
        refine a_iconst (v := (1 : Int32)) C dL_law_744 (by decide) ?_
        refine a_iadd C dL_law_745 ?_
        obtain ⟨v511, e512, e⟩ := bA_some e
        refine a_sld C X dL_law_746 e512 ?_
        refine a_aload_n C dL_law_747 rfl 0 rfl ?_
        refine a_iload_n C dL_law_748 rfl 3 rfl ?_
        refine a_iconst (v := (2 : Int32)) C dL_law_749 (by decide) ?_
        refine a_iadd C dL_law_750 ?_
        obtain ⟨v513, e514, e⟩ := bA_some e
        refine a_sld C X dL_law_751 e514 ?_
        refine a_aload_n C dL_law_752 rfl 0 rfl ?_
        refine a_iload_n C dL_law_753 rfl 3 rfl ?_
        refine a_iconst (v := (3 : Int32)) C dL_law_754 (by decide) ?_
        refine a_iadd C dL_law_755 ?_
        obtain ⟨v515, e516, e⟩ := bA_some e
        refine a_sld C X dL_law_756 e516 ?_
        refine a_aload_n C dL_law_757 rfl 0 rfl ?_
        refine a_iload_n C dL_law_758 rfl 3 rfl ?_
        refine a_iconst (v := (4 : Int32)) C dL_law_759 (by decide) ?_
        refine a_iadd C dL_law_760 ?_
        obtain ⟨v517, e518, e⟩ := bA_some e
        refine a_sld C X dL_law_761 e518 ?_
        obtain ⟨u525, ec524, e⟩ := bA_some e
        obtain ⟨fs523, eo522⟩ := isC_some ec524
        obtain ⟨r521, h519, e520, e⟩ := b2_some e
        refine a_callV (as := [.int v511, .int v513, .int v515, .int v517]) (rest := [.int r504]) C m_X12_needs im_X12_needs cb11 se_X12_X12_needs_X12_needs ml_L_90 rfl (Nat.le_of_ble_eq_true rfl) (Nat.le_of_ble_eq_true rfl) (by show ce ≤ (600000 : Nat); omega) (by show sl ≤ (7302250 : Nat); omega) (Nat.le_of_ble_eq_true rfl) dL_law_762 eo522 (k_X12_needs e520) rfl ?_
        show AW G lo ce sl 765 [(0, .ref b), (1, .ref (lo + x1)), (2, .ref (lo + x2)), (3, .int x3)] [.int r521, .int r504] h519
        refine a_icmp_eq (tgt := 1235) C dL_law_765 (by decide) (fun c528 => ?_) (fun c528 => ?_)
        · have e := ip c528 e
          refine a_iinc (v := x3 + (7 : Int32)) (lv2 := [(3, .int (x3 + (7 : Int32))), (0, .ref b), (1, .ref (lo + x1)), (2, .ref (lo + x2))]) C dL_law_1235 3 rfl rfl (by decide) rfl ?_
          refine a_goto (tgt := 18) C dL_law_1238 (by decide) ?_
          exact a_sub [1, 2, 3, 0] rfl (a_widen (ce2 := ce + 120) (sl2 := sl + 480) (by omega) (by omega) (ih _ _ _ _ (by omega) (by omega) e))
        · have e := iN c528 e
          refine a_iconst (v := (0 : Int32)) C dL_law_768 (by decide) ?_
          exact absurd (sp2 e).1 (by decide)
      have e := iN c493 e
      by_cases c529 : x24 = (18 : Int32)
      · have e := ip c529 e
        refine a_tableIn (tgt := 770) C dL_law_33 (by rw [c529]; decide) (by rw [c529]; decide) (by rw [c529]; first | done | rfl) (by decide) ?_
        refine a_aload_n C dL_law_770 rfl 1 rfl ?_
        refine a_aload_n C dL_law_771 rfl 0 rfl ?_
        refine a_iload_n C dL_law_772 rfl 3 rfl ?_
        refine a_iconst (v := (1 : Int32)) C dL_law_773 (by decide) ?_
        refine a_iadd C dL_law_774 ?_
        obtain ⟨v530, e531, e⟩ := bA_some e
        refine a_sld C X dL_law_775 e531 ?_
        refine a_aload_n C dL_law_776 rfl 0 rfl ?_
        refine a_iload_n C dL_law_777 rfl 3 rfl ?_
        refine a_iconst (v := (2 : Int32)) C dL_law_778 (by decide) ?_
        refine a_iadd C dL_law_779 ?_
        obtain ⟨v532, e533, e⟩ := bA_some e
        refine a_sld C X dL_law_780 e533 ?_
        obtain ⟨u540, ec539, e⟩ := bA_some e
        obtain ⟨fs538, eo537⟩ := isC_some ec539
        obtain ⟨r536, h534, e535, e⟩ := b2_some e
        refine a_callV (as := [.int v530, .int v532]) (rest := []) C m_X11_sets im_X11_sets cb10 se_X11_X11_sets_X11_sets ml_L_91 rfl (Nat.le_of_ble_eq_true rfl) (Nat.le_of_ble_eq_true rfl) (by show ce ≤ (600000 : Nat); omega) (by show sl ≤ (7302250 : Nat); omega) (Nat.le_of_ble_eq_true rfl) dL_law_781 eo537 (k_X11_sets e535) rfl ?_
        show AW G lo ce sl 784 [(0, .ref b), (1, .ref (lo + x1)), (2, .ref (lo + x2)), (3, .int x3)] [.int r536] h534
        refine a_aload_n C dL_law_784 rfl 2 rfl ?_
        refine a_aload_n C dL_law_785 rfl 0 rfl ?_
        refine a_iload_n C dL_law_786 rfl 3 rfl ?_
        refine a_iconst (v := (1 : Int32)) C dL_law_787 (by decide) ?_
        refine a_iadd C dL_law_788 ?_
        obtain ⟨v543, e544, e⟩ := bA_some e
        refine a_sld C X dL_law_789 e544 ?_
        refine a_aload_n C dL_law_790 rfl 0 rfl ?_
        refine a_iload_n C dL_law_791 rfl 3 rfl ?_
        refine a_iconst (v := (2 : Int32)) C dL_law_792 (by decide) ?_
        refine a_iadd C dL_law_793 ?_
        obtain ⟨v545, e546, e⟩ := bA_some e
        refine a_sld C X dL_law_794 e546 ?_
        obtain ⟨u553, ec552, e⟩ := bA_some e
        obtain ⟨fs551, eo550⟩ := isC_some ec552
        obtain ⟨r549, h547, e548, e⟩ := b2_some e
        refine a_callV (as := [.int v543, .int v545]) (rest := [.int r536]) C m_X12_sets im_X12_sets cb11 se_X12_X12_sets_X12_sets ml_L_94 rfl (Nat.le_of_ble_eq_true rfl) (Nat.le_of_ble_eq_true rfl) (by show ce ≤ (600000 : Nat); omega) (by show sl ≤ (7302250 : Nat); omega) (Nat.le_of_ble_eq_true rfl) dL_law_795 eo550 (k_X12_sets e548) rfl ?_
        show AW G lo ce sl 798 [(0, .ref b), (1, .ref (lo + x1)), (2, .ref (lo + x2)), (3, .int x3)] [.int r549, .int r536] h547
        refine a_icmp_eq (tgt := 1235) C dL_law_798 (by decide) (fun c556 => ?_) (fun c556 => ?_)
        · have e := ip c556 e
          refine a_iinc (v := x3 + (7 : Int32)) (lv2 := [(3, .int (x3 + (7 : Int32))), (0, .ref b), (1, .ref (lo + x1)), (2, .ref (lo + x2))]) C dL_law_1235 3 rfl rfl (by decide) rfl ?_
          refine a_goto (tgt := 18) C dL_law_1238 (by decide) ?_
          exact a_sub [1, 2, 3, 0] rfl (a_widen (ce2 := ce + 120) (sl2 := sl + 480) (by omega) (by omega) (ih _ _ _ _ (by omega) (by omega) e))
        · have e := iN c556 e
          refine a_iconst (v := (0 : Int32)) C dL_law_801 (by decide) ?_
          exact absurd (sp2 e).1 (by decide)
      have e := iN c529 e
      by_cases c557 : x24 = (19 : Int32)
      · have e := ip c557 e
        refine a_tableIn (tgt := 803) C dL_law_33 (by rw [c557]; decide) (by rw [c557]; decide) (by rw [c557]; first | done | rfl) (by decide) ?_
        refine a_aload_n C dL_law_803 rfl 1 rfl ?_
        refine a_aload_n C dL_law_804 rfl 0 rfl ?_
        refine a_iload_n C dL_law_805 rfl 3 rfl ?_
        refine a_iconst (v := (1 : Int32)) C dL_law_806 (by decide) ?_
        refine a_iadd C dL_law_807 ?_
        obtain ⟨v558, e559, e⟩ := bA_some e
        refine a_sld C X dL_law_808 e559 ?_
        refine a_aload_n C dL_law_809 rfl 0 rfl ?_
        refine a_iload_n C dL_law_810 rfl 3 rfl ?_
        refine a_iconst (v := (2 : Int32)) C dL_law_811 (by decide) ?_
        refine a_iadd C dL_law_812 ?_
        obtain ⟨v560, e561, e⟩ := bA_some e
        refine a_sld C X dL_law_813 e561 ?_
        obtain ⟨u568, ec567, e⟩ := bA_some e
        obtain ⟨fs566, eo565⟩ := isC_some ec567
        obtain ⟨r564, h562, e563, e⟩ := b2_some e
        refine a_callV (as := [.int v558, .int v560]) (rest := []) C m_X11_share im_X11_share cb10 se_X11_X11_share_X11_share ml_L_95 rfl (Nat.le_of_ble_eq_true rfl) (Nat.le_of_ble_eq_true rfl) (by show ce ≤ (600000 : Nat); omega) (by show sl ≤ (7302250 : Nat); omega) (Nat.le_of_ble_eq_true rfl) dL_law_814 eo565 (k_X11_share e563) rfl ?_
        show AW G lo ce sl 817 [(0, .ref b), (1, .ref (lo + x1)), (2, .ref (lo + x2)), (3, .int x3)] [.int r564] h562
        refine a_aload_n C dL_law_817 rfl 2 rfl ?_
        refine a_aload_n C dL_law_818 rfl 0 rfl ?_
        refine a_iload_n C dL_law_819 rfl 3 rfl ?_
        refine a_iconst (v := (1 : Int32)) C dL_law_820 (by decide) ?_
        refine a_iadd C dL_law_821 ?_
        obtain ⟨v571, e572, e⟩ := bA_some e
        refine a_sld C X dL_law_822 e572 ?_
        refine a_aload_n C dL_law_823 rfl 0 rfl ?_
        refine a_iload_n C dL_law_824 rfl 3 rfl ?_
        refine a_iconst (v := (2 : Int32)) C dL_law_825 (by decide) ?_
        refine a_iadd C dL_law_826 ?_
        obtain ⟨v573, e574, e⟩ := bA_some e
        refine a_sld C X dL_law_827 e574 ?_
        obtain ⟨u581, ec580, e⟩ := bA_some e
        obtain ⟨fs579, eo578⟩ := isC_some ec580
        obtain ⟨r577, h575, e576, e⟩ := b2_some e
        refine a_callV (as := [.int v571, .int v573]) (rest := [.int r564]) C m_X12_share im_X12_share cb11 se_X12_X12_share_X12_share ml_L_98 rfl (Nat.le_of_ble_eq_true rfl) (Nat.le_of_ble_eq_true rfl) (by show ce ≤ (600000 : Nat); omega) (by show sl ≤ (7302250 : Nat); omega) (Nat.le_of_ble_eq_true rfl) dL_law_828 eo578 (k_X12_share e576) rfl ?_
        show AW G lo ce sl 831 [(0, .ref b), (1, .ref (lo + x1)), (2, .ref (lo + x2)), (3, .int x3)] [.int r577, .int r564] h575
        refine a_icmp_eq (tgt := 1235) C dL_law_831 (by decide) (fun c584 => ?_) (fun c584 => ?_)
        · have e := ip c584 e
          refine a_iinc (v := x3 + (7 : Int32)) (lv2 := [(3, .int (x3 + (7 : Int32))), (0, .ref b), (1, .ref (lo + x1)), (2, .ref (lo + x2))]) C dL_law_1235 3 rfl rfl (by decide) rfl ?_
          refine a_goto (tgt := 18) C dL_law_1238 (by decide) ?_
          exact a_sub [1, 2, 3, 0] rfl (a_widen (ce2 := ce + 120) (sl2 := sl + 480) (by omega) (by omega) (ih _ _ _ _ (by omega) (by omega) e))
        · have e := iN c584 e
          refine a_iconst (v := (0 : Int32)) C dL_law_834 (by decide) ?_
          exact absurd (sp2 e).1 (by decide)
      have e := iN c557 e
      by_cases c585 : x24 = (20 : Int32)
      · have e := ip c585 e
        refine a_tableIn (tgt := 836) C dL_law_33 (by rw [c585]; decide) (by rw [c585]; decide) (by rw [c585]; first | done | rfl) (by decide) ?_
        refine a_aload_n C dL_law_836 rfl 1 rfl ?_
        refine a_aload_n C dL_law_837 rfl 0 rfl ?_
        refine a_iload_n C dL_law_838 rfl 3 rfl ?_
        refine a_iconst (v := (1 : Int32)) C dL_law_839 (by decide) ?_
        refine a_iadd C dL_law_840 ?_
        obtain ⟨v586, e587, e⟩ := bA_some e
        refine a_sld C X dL_law_841 e587 ?_
        obtain ⟨u594, ec593, e⟩ := bA_some e
        obtain ⟨fs592, eo591⟩ := isC_some ec593
        obtain ⟨r590, h588, e589, e⟩ := b2_some e
        refine a_callV (as := [.int v586]) (rest := []) C m_X11_byTurns im_X11_byTurns cb10 se_X11_X11_byTurns_X11_byTurns ml_L_99 rfl (Nat.le_of_ble_eq_true rfl) (Nat.le_of_ble_eq_true rfl) (by show ce ≤ (600000 : Nat); omega) (by show sl ≤ (7302250 : Nat); omega) (Nat.le_of_ble_eq_true rfl) dL_law_842 eo591 (k_X11_byTurns e589) rfl ?_
        show AW G lo ce sl 845 [(0, .ref b), (1, .ref (lo + x1)), (2, .ref (lo + x2)), (3, .int x3)] [.int r590] h588
        refine a_aload_n C dL_law_845 rfl 2 rfl ?_
        refine a_aload_n C dL_law_846 rfl 0 rfl ?_
        refine a_iload_n C dL_law_847 rfl 3 rfl ?_
        refine a_iconst (v := (1 : Int32)) C dL_law_848 (by decide) ?_
        refine a_iadd C dL_law_849 ?_
        obtain ⟨v597, e598, e⟩ := bA_some e
        refine a_sld C X dL_law_850 e598 ?_
        obtain ⟨u605, ec604, e⟩ := bA_some e
        obtain ⟨fs603, eo602⟩ := isC_some ec604
        obtain ⟨r601, h599, e600, e⟩ := b2_some e
        refine a_callV (as := [.int v597]) (rest := [.int r590]) C m_X12_byTurns im_X12_byTurns cb11 se_X12_X12_byTurns_X12_byTurns ml_L_102 rfl (Nat.le_of_ble_eq_true rfl) (Nat.le_of_ble_eq_true rfl) (by show ce ≤ (600000 : Nat); omega) (by show sl ≤ (7302250 : Nat); omega) (Nat.le_of_ble_eq_true rfl) dL_law_851 eo602 (k_X12_byTurns e600) rfl ?_
        show AW G lo ce sl 854 [(0, .ref b), (1, .ref (lo + x1)), (2, .ref (lo + x2)), (3, .int x3)] [.int r601, .int r590] h599
        refine a_icmp_eq (tgt := 1235) C dL_law_854 (by decide) (fun c608 => ?_) (fun c608 => ?_)
        · have e := ip c608 e
          refine a_iinc (v := x3 + (7 : Int32)) (lv2 := [(3, .int (x3 + (7 : Int32))), (0, .ref b), (1, .ref (lo + x1)), (2, .ref (lo + x2))]) C dL_law_1235 3 rfl rfl (by decide) rfl ?_
          refine a_goto (tgt := 18) C dL_law_1238 (by decide) ?_
          exact a_sub [1, 2, 3, 0] rfl (a_widen (ce2 := ce + 120) (sl2 := sl + 480) (by omega) (by omega) (ih _ _ _ _ (by omega) (by omega) e))
        · have e := iN c608 e
          refine a_iconst (v := (0 : Int32)) C dL_law_857 (by decide) ?_
          exact absurd (sp2 e).1 (by decide)
      have e := iN c585 e
      by_cases c609 : x24 = (21 : Int32)
      · have e := ip c609 e
        refine a_tableIn (tgt := 859) C dL_law_33 (by rw [c609]; decide) (by rw [c609]; decide) (by rw [c609]; first | done | rfl) (by decide) ?_
        refine a_aload_n C dL_law_859 rfl 1 rfl ?_
        refine a_aload_n C dL_law_860 rfl 0 rfl ?_
        refine a_iload_n C dL_law_861 rfl 3 rfl ?_
        refine a_iconst (v := (1 : Int32)) C dL_law_862 (by decide) ?_
        refine a_iadd C dL_law_863 ?_
        obtain ⟨v610, e611, e⟩ := bA_some e
        refine a_sld C X dL_law_864 e611 ?_
        refine a_aload_n C dL_law_865 rfl 0 rfl ?_
        refine a_iload_n C dL_law_866 rfl 3 rfl ?_
        refine a_iconst (v := (2 : Int32)) C dL_law_867 (by decide) ?_
        refine a_iadd C dL_law_868 ?_
        obtain ⟨v612, e613, e⟩ := bA_some e
        refine a_sld C X dL_law_869 e613 ?_
        refine a_aload_n C dL_law_870 rfl 0 rfl ?_
        refine a_iload_n C dL_law_871 rfl 3 rfl ?_
        refine a_iconst (v := (3 : Int32)) C dL_law_872 (by decide) ?_
        refine a_iadd C dL_law_873 ?_
        obtain ⟨v614, e615, e⟩ := bA_some e
        refine a_sld C X dL_law_874 e615 ?_
        refine a_aload_n C dL_law_875 rfl 0 rfl ?_
        refine a_iload_n C dL_law_876 rfl 3 rfl ?_
        refine a_iconst (v := (4 : Int32)) C dL_law_877 (by decide) ?_
        refine a_iadd C dL_law_878 ?_
        obtain ⟨v616, e617, e⟩ := bA_some e
        refine a_sld C X dL_law_879 e617 ?_
        refine a_aload_n C dL_law_880 rfl 0 rfl ?_
        refine a_iload_n C dL_law_881 rfl 3 rfl ?_
        refine a_iconst (v := (5 : Int32)) C dL_law_882 (by decide) ?_
        refine a_iadd C dL_law_883 ?_
        obtain ⟨v618, e619, e⟩ := bA_some e
        refine a_sld C X dL_law_884 e619 ?_
        refine a_aload_n C dL_law_885 rfl 0 rfl ?_
        refine a_iload_n C dL_law_886 rfl 3 rfl ?_
        refine a_bipush (v := (6 : Int32)) C dL_law_887 (by decide) ?_
        refine a_iadd C dL_law_889 ?_
        obtain ⟨v620, e621, e⟩ := bA_some e
        refine a_sld C X dL_law_890 e621 ?_
        obtain ⟨u628, ec627, e⟩ := bA_some e
        obtain ⟨fs626, eo625⟩ := isC_some ec627
        obtain ⟨r624, h622, e623, e⟩ := b2_some e
        refine a_callV (as := [.int v610, .int v612, .int v614, .int v616, .int v618, .int v620]) (rest := []) C m_X11_who im_X11_who cb10 se_X11_X11_who_X11_who ml_L_103 rfl (Nat.le_of_ble_eq_true rfl) (Nat.le_of_ble_eq_true rfl) (by show (ce + 12) ≤ (600000 : Nat); omega) (by show (sl + 48) ≤ (7302250 : Nat); omega) (Nat.le_of_ble_eq_true rfl) dL_law_891 eo625 (k_X11_who e623) rfl ?_
        show AW G lo (ce + 12) (sl + 48) 894 [(0, .ref b), (1, .ref (lo + x1)), (2, .ref (lo + x2)), (3, .int x3)] [.int r624] h622
        refine a_aload_n C dL_law_894 rfl 2 rfl ?_
        refine a_aload_n C dL_law_895 rfl 0 rfl ?_
        refine a_iload_n C dL_law_896 rfl 3 rfl ?_
        refine a_iconst (v := (1 : Int32)) C dL_law_897 (by decide) ?_
        refine a_iadd C dL_law_898 ?_
        obtain ⟨v631, e632, e⟩ := bA_some e
        refine a_sld C X dL_law_899 e632 ?_
        refine a_aload_n C dL_law_900 rfl 0 rfl ?_
        refine a_iload_n C dL_law_901 rfl 3 rfl ?_
        refine a_iconst (v := (2 : Int32)) C dL_law_902 (by decide) ?_
        refine a_iadd C dL_law_903 ?_
        obtain ⟨v633, e634, e⟩ := bA_some e
        refine a_sld C X dL_law_904 e634 ?_
        refine a_aload_n C dL_law_905 rfl 0 rfl ?_
        refine a_iload_n C dL_law_906 rfl 3 rfl ?_
        refine a_iconst (v := (3 : Int32)) C dL_law_907 (by decide) ?_
        refine a_iadd C dL_law_908 ?_
        obtain ⟨v635, e636, e⟩ := bA_some e
        refine a_sld C X dL_law_909 e636 ?_
        refine a_aload_n C dL_law_910 rfl 0 rfl ?_
        refine a_iload_n C dL_law_911 rfl 3 rfl ?_
        refine a_iconst (v := (4 : Int32)) C dL_law_912 (by decide) ?_
        refine a_iadd C dL_law_913 ?_
        obtain ⟨v637, e638, e⟩ := bA_some e
        refine a_sld C X dL_law_914 e638 ?_
        refine a_aload_n C dL_law_915 rfl 0 rfl ?_
        refine a_iload_n C dL_law_916 rfl 3 rfl ?_
        refine a_iconst (v := (5 : Int32)) C dL_law_917 (by decide) ?_
        refine a_iadd C dL_law_918 ?_
        obtain ⟨v639, e640, e⟩ := bA_some e
        refine a_sld C X dL_law_919 e640 ?_
        refine a_aload_n C dL_law_920 rfl 0 rfl ?_
        refine a_iload_n C dL_law_921 rfl 3 rfl ?_
        refine a_bipush (v := (6 : Int32)) C dL_law_922 (by decide) ?_
        refine a_iadd C dL_law_924 ?_
        obtain ⟨v641, e642, e⟩ := bA_some e
        refine a_sld C X dL_law_925 e642 ?_
        obtain ⟨u649, ec648, e⟩ := bA_some e
        obtain ⟨fs647, eo646⟩ := isC_some ec648
        obtain ⟨r645, h643, e644, e⟩ := b2_some e
        refine a_callV (as := [.int v631, .int v633, .int v635, .int v637, .int v639, .int v641]) (rest := [.int r624]) C m_X12_who im_X12_who cb11 se_X12_X12_who_X12_who ml_L_107 rfl (Nat.le_of_ble_eq_true rfl) (Nat.le_of_ble_eq_true rfl) (by show (ce + 12) ≤ (600000 : Nat); omega) (by show (sl + 48) ≤ (7302250 : Nat); omega) (Nat.le_of_ble_eq_true rfl) dL_law_926 eo646 (k_X12_who e644) rfl ?_
        show AW G lo (ce + 12) (sl + 48) 929 [(0, .ref b), (1, .ref (lo + x1)), (2, .ref (lo + x2)), (3, .int x3)] [.int r645, .int r624] h643
        refine a_icmp_eq (tgt := 1235) C dL_law_929 (by decide) (fun c652 => ?_) (fun c652 => ?_)
        · have e := ip c652 e
          refine a_iinc (v := x3 + (7 : Int32)) (lv2 := [(3, .int (x3 + (7 : Int32))), (0, .ref b), (1, .ref (lo + x1)), (2, .ref (lo + x2))]) C dL_law_1235 3 rfl rfl (by decide) rfl ?_
          refine a_goto (tgt := 18) C dL_law_1238 (by decide) ?_
          exact a_sub [1, 2, 3, 0] rfl (a_widen (ce2 := ce + 120) (sl2 := sl + 480) (by omega) (by omega) (ih _ _ _ _ (by omega) (by omega) e))
        · have e := iN c652 e
          refine a_iconst (v := (0 : Int32)) C dL_law_932 (by decide) ?_
          exact absurd (sp2 e).1 (by decide)
      have e := iN c609 e
      by_cases c653 : x24 = (22 : Int32)
      · have e := ip c653 e
        refine a_tableIn (tgt := 934) C dL_law_33 (by rw [c653]; decide) (by rw [c653]; decide) (by rw [c653]; first | done | rfl) (by decide) ?_
        refine a_aload_n C dL_law_934 rfl 1 rfl ?_
        refine a_aload_n C dL_law_935 rfl 0 rfl ?_
        refine a_iload_n C dL_law_936 rfl 3 rfl ?_
        refine a_iconst (v := (1 : Int32)) C dL_law_937 (by decide) ?_
        refine a_iadd C dL_law_938 ?_
        obtain ⟨v654, e655, e⟩ := bA_some e
        refine a_sld C X dL_law_939 e655 ?_
        refine a_aload_n C dL_law_940 rfl 0 rfl ?_
        refine a_iload_n C dL_law_941 rfl 3 rfl ?_
        refine a_iconst (v := (2 : Int32)) C dL_law_942 (by decide) ?_
        refine a_iadd C dL_law_943 ?_
        obtain ⟨v656, e657, e⟩ := bA_some e
        refine a_sld C X dL_law_944 e657 ?_
        refine a_aload_n C dL_law_945 rfl 0 rfl ?_
        refine a_iload_n C dL_law_946 rfl 3 rfl ?_
        refine a_iconst (v := (3 : Int32)) C dL_law_947 (by decide) ?_
        refine a_iadd C dL_law_948 ?_
        obtain ⟨v658, e659, e⟩ := bA_some e
        refine a_sld C X dL_law_949 e659 ?_
        refine a_aload_n C dL_law_950 rfl 0 rfl ?_
        refine a_iload_n C dL_law_951 rfl 3 rfl ?_
        refine a_iconst (v := (4 : Int32)) C dL_law_952 (by decide) ?_
        refine a_iadd C dL_law_953 ?_
        obtain ⟨v660, e661, e⟩ := bA_some e
        refine a_sld C X dL_law_954 e661 ?_
        refine a_aload_n C dL_law_955 rfl 0 rfl ?_
        refine a_iload_n C dL_law_956 rfl 3 rfl ?_
        refine a_iconst (v := (5 : Int32)) C dL_law_957 (by decide) ?_
        refine a_iadd C dL_law_958 ?_
        obtain ⟨v662, e663, e⟩ := bA_some e
        refine a_sld C X dL_law_959 e663 ?_
        obtain ⟨u670, ec669, e⟩ := bA_some e
        obtain ⟨fs668, eo667⟩ := isC_some ec669
        obtain ⟨r666, h664, e665, e⟩ := b2_some e
        refine a_callV (as := [.int v654, .int v656, .int v658, .int v660, .int v662]) (rest := []) C m_X11_sticks im_X11_sticks cb10 se_X11_X11_sticks_X11_sticks ml_L_108 rfl (Nat.le_of_ble_eq_true rfl) (Nat.le_of_ble_eq_true rfl) (by show ce ≤ (600000 : Nat); omega) (by show sl ≤ (7302250 : Nat); omega) (Nat.le_of_ble_eq_true rfl) dL_law_960 eo667 (k_X11_sticks e665) rfl ?_
        show AW G lo ce sl 963 [(0, .ref b), (1, .ref (lo + x1)), (2, .ref (lo + x2)), (3, .int x3)] [.long r666] h664
        refine a_aload_n C dL_law_963 rfl 2 rfl ?_
        refine a_aload_n C dL_law_964 rfl 0 rfl ?_
        refine a_iload_n C dL_law_965 rfl 3 rfl ?_
        refine a_iconst (v := (1 : Int32)) C dL_law_966 (by decide) ?_
        refine a_iadd C dL_law_967 ?_
        obtain ⟨v673, e674, e⟩ := bA_some e
        refine a_sld C X dL_law_968 e674 ?_
        refine a_aload_n C dL_law_969 rfl 0 rfl ?_
        refine a_iload_n C dL_law_970 rfl 3 rfl ?_
        refine a_iconst (v := (2 : Int32)) C dL_law_971 (by decide) ?_
        refine a_iadd C dL_law_972 ?_
        obtain ⟨v675, e676, e⟩ := bA_some e
        refine a_sld C X dL_law_973 e676 ?_
        refine a_aload_n C dL_law_974 rfl 0 rfl ?_
        refine a_iload_n C dL_law_975 rfl 3 rfl ?_
        refine a_iconst (v := (3 : Int32)) C dL_law_976 (by decide) ?_
        refine a_iadd C dL_law_977 ?_
        obtain ⟨v677, e678, e⟩ := bA_some e
        refine a_sld C X dL_law_978 e678 ?_
        refine a_aload_n C dL_law_979 rfl 0 rfl ?_
        refine a_iload_n C dL_law_980 rfl 3 rfl ?_
        refine a_iconst (v := (4 : Int32)) C dL_law_981 (by decide) ?_
        refine a_iadd C dL_law_982 ?_
        obtain ⟨v679, e680, e⟩ := bA_some e
        refine a_sld C X dL_law_983 e680 ?_
        refine a_aload_n C dL_law_984 rfl 0 rfl ?_
        refine a_iload_n C dL_law_985 rfl 3 rfl ?_
        refine a_iconst (v := (5 : Int32)) C dL_law_986 (by decide) ?_
        refine a_iadd C dL_law_987 ?_
        obtain ⟨v681, e682, e⟩ := bA_some e
        refine a_sld C X dL_law_988 e682 ?_
        obtain ⟨u689, ec688, e⟩ := bA_some e
        obtain ⟨fs687, eo686⟩ := isC_some ec688
        obtain ⟨r685, h683, e684, e⟩ := b2_some e
        refine a_callV (as := [.int v673, .int v675, .int v677, .int v679, .int v681]) (rest := [.long r666]) C m_X12_sticks im_X12_sticks cb11 se_X12_X12_sticks_X12_sticks ml_L_112 rfl (Nat.le_of_ble_eq_true rfl) (Nat.le_of_ble_eq_true rfl) (by show ce ≤ (600000 : Nat); omega) (by show sl ≤ (7302250 : Nat); omega) (Nat.le_of_ble_eq_true rfl) dL_law_989 eo686 (k_X12_sticks e684) rfl ?_
        show AW G lo ce sl 992 [(0, .ref b), (1, .ref (lo + x1)), (2, .ref (lo + x2)), (3, .int x3)] [.long r685, .long r666] h683
        refine a_lcmp C dL_law_992 ?_
        refine a_if_eq (tgt := 1235) C dL_law_993 (by decide) (fun c692 => ?_) (fun c692 => ?_)
        · have e := ip c692 e
          refine a_iinc (v := x3 + (7 : Int32)) (lv2 := [(3, .int (x3 + (7 : Int32))), (0, .ref b), (1, .ref (lo + x1)), (2, .ref (lo + x2))]) C dL_law_1235 3 rfl rfl (by decide) rfl ?_
          refine a_goto (tgt := 18) C dL_law_1238 (by decide) ?_
          exact a_sub [1, 2, 3, 0] rfl (a_widen (ce2 := ce + 120) (sl2 := sl + 480) (by omega) (by omega) (ih _ _ _ _ (by omega) (by omega) e))
        · have e := iN c692 e
          refine a_iconst (v := (0 : Int32)) C dL_law_996 (by decide) ?_
          exact absurd (sp2 e).1 (by decide)
      have e := iN c653 e
      by_cases c693 : x24 = (23 : Int32)
      · have e := ip c693 e
        refine a_tableIn (tgt := 998) C dL_law_33 (by rw [c693]; decide) (by rw [c693]; decide) (by rw [c693]; first | done | rfl) (by decide) ?_
        refine a_aload_n C dL_law_998 rfl 1 rfl ?_
        refine a_aload_n C dL_law_999 rfl 0 rfl ?_
        refine a_iload_n C dL_law_1000 rfl 3 rfl ?_
        refine a_iconst (v := (1 : Int32)) C dL_law_1001 (by decide) ?_
        refine a_iadd C dL_law_1002 ?_
        obtain ⟨v694, e695, e⟩ := bA_some e
        refine a_sld C X dL_law_1003 e695 ?_
        refine a_aload_n C dL_law_1004 rfl 0 rfl ?_
        refine a_iload_n C dL_law_1005 rfl 3 rfl ?_
        refine a_iconst (v := (2 : Int32)) C dL_law_1006 (by decide) ?_
        refine a_iadd C dL_law_1007 ?_
        obtain ⟨v696, e697, e⟩ := bA_some e
        refine a_sld C X dL_law_1008 e697 ?_
        refine a_aload_n C dL_law_1009 rfl 0 rfl ?_
        refine a_iload_n C dL_law_1010 rfl 3 rfl ?_
        refine a_iconst (v := (3 : Int32)) C dL_law_1011 (by decide) ?_
        refine a_iadd C dL_law_1012 ?_
        obtain ⟨v698, e699, e⟩ := bA_some e
        refine a_sld C X dL_law_1013 e699 ?_
        obtain ⟨u706, ec705, e⟩ := bA_some e
        obtain ⟨fs704, eo703⟩ := isC_some ec705
        obtain ⟨r702, h700, e701, e⟩ := b2_some e
        refine a_callV (as := [.int v694, .int v696, .int v698]) (rest := []) C m_X11_drawn im_X11_drawn cb10 se_X11_X11_drawn_X11_drawn ml_L_113 rfl (Nat.le_of_ble_eq_true rfl) (Nat.le_of_ble_eq_true rfl) (by show ce ≤ (600000 : Nat); omega) (by show sl ≤ (7302250 : Nat); omega) (Nat.le_of_ble_eq_true rfl) dL_law_1014 eo703 (k_X11_drawn e701) rfl ?_
        show AW G lo ce sl 1017 [(0, .ref b), (1, .ref (lo + x1)), (2, .ref (lo + x2)), (3, .int x3)] [.int r702] h700
        refine a_aload_n C dL_law_1017 rfl 2 rfl ?_
        refine a_aload_n C dL_law_1018 rfl 0 rfl ?_
        refine a_iload_n C dL_law_1019 rfl 3 rfl ?_
        refine a_iconst (v := (1 : Int32)) C dL_law_1020 (by decide) ?_
        refine a_iadd C dL_law_1021 ?_
        obtain ⟨v709, e710, e⟩ := bA_some e
        refine a_sld C X dL_law_1022 e710 ?_
        refine a_aload_n C dL_law_1023 rfl 0 rfl ?_
        refine a_iload_n C dL_law_1024 rfl 3 rfl ?_
        refine a_iconst (v := (2 : Int32)) C dL_law_1025 (by decide) ?_
        refine a_iadd C dL_law_1026 ?_
        obtain ⟨v711, e712, e⟩ := bA_some e
        refine a_sld C X dL_law_1027 e712 ?_
        refine a_aload_n C dL_law_1028 rfl 0 rfl ?_
        refine a_iload_n C dL_law_1029 rfl 3 rfl ?_
        refine a_iconst (v := (3 : Int32)) C dL_law_1030 (by decide) ?_
        refine a_iadd C dL_law_1031 ?_
        obtain ⟨v713, e714, e⟩ := bA_some e
        refine a_sld C X dL_law_1032 e714 ?_
        obtain ⟨u721, ec720, e⟩ := bA_some e
        obtain ⟨fs719, eo718⟩ := isC_some ec720
        obtain ⟨r717, h715, e716, e⟩ := b2_some e
        refine a_callV (as := [.int v709, .int v711, .int v713]) (rest := [.int r702]) C m_X12_drawn im_X12_drawn cb11 se_X12_X12_drawn_X12_drawn ml_L_116 rfl (Nat.le_of_ble_eq_true rfl) (Nat.le_of_ble_eq_true rfl) (by show ce ≤ (600000 : Nat); omega) (by show sl ≤ (7302250 : Nat); omega) (Nat.le_of_ble_eq_true rfl) dL_law_1033 eo718 (k_X12_drawn e716) rfl ?_
        show AW G lo ce sl 1036 [(0, .ref b), (1, .ref (lo + x1)), (2, .ref (lo + x2)), (3, .int x3)] [.int r717, .int r702] h715
        refine a_icmp_eq (tgt := 1235) C dL_law_1036 (by decide) (fun c724 => ?_) (fun c724 => ?_)
        · have e := ip c724 e
          refine a_iinc (v := x3 + (7 : Int32)) (lv2 := [(3, .int (x3 + (7 : Int32))), (0, .ref b), (1, .ref (lo + x1)), (2, .ref (lo + x2))]) C dL_law_1235 3 rfl rfl (by decide) rfl ?_
          refine a_goto (tgt := 18) C dL_law_1238 (by decide) ?_
          exact a_sub [1, 2, 3, 0] rfl (a_widen (ce2 := ce + 120) (sl2 := sl + 480) (by omega) (by omega) (ih _ _ _ _ (by omega) (by omega) e))
        · have e := iN c724 e
          refine a_iconst (v := (0 : Int32)) C dL_law_1039 (by decide) ?_
          exact absurd (sp2 e).1 (by decide)
      have e := iN c693 e
      by_cases c725 : x24 = (24 : Int32)
      · have e := ip c725 e
        refine a_tableIn (tgt := 1041) C dL_law_33 (by rw [c725]; decide) (by rw [c725]; decide) (by rw [c725]; first | done | rfl) (by decide) ?_
        refine a_aload_n C dL_law_1041 rfl 1 rfl ?_
        refine a_aload_n C dL_law_1042 rfl 0 rfl ?_
        refine a_iload_n C dL_law_1043 rfl 3 rfl ?_
        refine a_iconst (v := (1 : Int32)) C dL_law_1044 (by decide) ?_
        refine a_iadd C dL_law_1045 ?_
        obtain ⟨v726, e727, e⟩ := bA_some e
        refine a_sld C X dL_law_1046 e727 ?_
        obtain ⟨u734, ec733, e⟩ := bA_some e
        obtain ⟨fs732, eo731⟩ := isC_some ec733
        obtain ⟨r730, h728, e729, e⟩ := b2_some e
        refine a_callV (as := [.int v726]) (rest := []) C m_X11_image im_X11_image cb10 se_X11_X11_image_X11_image ml_L_117 rfl (Nat.le_of_ble_eq_true rfl) (Nat.le_of_ble_eq_true rfl) (by show ce ≤ (600000 : Nat); omega) (by show sl ≤ (7302250 : Nat); omega) (Nat.le_of_ble_eq_true rfl) dL_law_1047 eo731 (k_X11_image e729) rfl ?_
        show AW G lo ce sl 1050 [(0, .ref b), (1, .ref (lo + x1)), (2, .ref (lo + x2)), (3, .int x3)] [.int r730] h728
        refine a_aload_n C dL_law_1050 rfl 2 rfl ?_
        refine a_aload_n C dL_law_1051 rfl 0 rfl ?_
        refine a_iload_n C dL_law_1052 rfl 3 rfl ?_
        refine a_iconst (v := (1 : Int32)) C dL_law_1053 (by decide) ?_
        refine a_iadd C dL_law_1054 ?_
        obtain ⟨v737, e738, e⟩ := bA_some e
        refine a_sld C X dL_law_1055 e738 ?_
        obtain ⟨u745, ec744, e⟩ := bA_some e
        obtain ⟨fs743, eo742⟩ := isC_some ec744
        obtain ⟨r741, h739, e740, e⟩ := b2_some e
        refine a_callV (as := [.int v737]) (rest := [.int r730]) C m_X12_image im_X12_image cb11 se_X12_X12_image_X12_image ml_L_120 rfl (Nat.le_of_ble_eq_true rfl) (Nat.le_of_ble_eq_true rfl) (by show ce ≤ (600000 : Nat); omega) (by show sl ≤ (7302250 : Nat); omega) (Nat.le_of_ble_eq_true rfl) dL_law_1056 eo742 (k_X12_image e740) rfl ?_
        show AW G lo ce sl 1059 [(0, .ref b), (1, .ref (lo + x1)), (2, .ref (lo + x2)), (3, .int x3)] [.int r741, .int r730] h739
        refine a_icmp_eq (tgt := 1235) C dL_law_1059 (by decide) (fun c748 => ?_) (fun c748 => ?_)
        · have e := ip c748 e
          refine a_iinc (v := x3 + (7 : Int32)) (lv2 := [(3, .int (x3 + (7 : Int32))), (0, .ref b), (1, .ref (lo + x1)), (2, .ref (lo + x2))]) C dL_law_1235 3 rfl rfl (by decide) rfl ?_
          refine a_goto (tgt := 18) C dL_law_1238 (by decide) ?_
          exact a_sub [1, 2, 3, 0] rfl (a_widen (ce2 := ce + 120) (sl2 := sl + 480) (by omega) (by omega) (ih _ _ _ _ (by omega) (by omega) e))
        · have e := iN c748 e
          refine a_iconst (v := (0 : Int32)) C dL_law_1062 (by decide) ?_
          exact absurd (sp2 e).1 (by decide)
      have e := iN c725 e
      by_cases c749 : x24 = (25 : Int32)
      · have e := ip c749 e
        refine a_tableIn (tgt := 1064) C dL_law_33 (by rw [c749]; decide) (by rw [c749]; decide) (by rw [c749]; first | done | rfl) (by decide) ?_
        refine a_aload_n C dL_law_1064 rfl 1 rfl ?_
        refine a_aload_n C dL_law_1065 rfl 0 rfl ?_
        refine a_iload_n C dL_law_1066 rfl 3 rfl ?_
        refine a_iconst (v := (1 : Int32)) C dL_law_1067 (by decide) ?_
        refine a_iadd C dL_law_1068 ?_
        obtain ⟨v750, e751, e⟩ := bA_some e
        refine a_sld C X dL_law_1069 e751 ?_
        obtain ⟨u758, ec757, e⟩ := bA_some e
        obtain ⟨fs756, eo755⟩ := isC_some ec757
        obtain ⟨r754, h752, e753, e⟩ := b2_some e
        refine a_callV (as := [.int v750]) (rest := []) C m_X11_restore im_X11_restore cb10 se_X11_X11_restore_X11_restore ml_L_121 rfl (Nat.le_of_ble_eq_true rfl) (Nat.le_of_ble_eq_true rfl) (by show ce ≤ (600000 : Nat); omega) (by show sl ≤ (7302250 : Nat); omega) (Nat.le_of_ble_eq_true rfl) dL_law_1070 eo755 (k_X11_restore e753) rfl ?_
        show AW G lo ce sl 1073 [(0, .ref b), (1, .ref (lo + x1)), (2, .ref (lo + x2)), (3, .int x3)] [.int r754] h752
        refine a_aload_n C dL_law_1073 rfl 2 rfl ?_
        refine a_aload_n C dL_law_1074 rfl 0 rfl ?_
        refine a_iload_n C dL_law_1075 rfl 3 rfl ?_
        refine a_iconst (v := (1 : Int32)) C dL_law_1076 (by decide) ?_
        refine a_iadd C dL_law_1077 ?_
        obtain ⟨v761, e762, e⟩ := bA_some e
        refine a_sld C X dL_law_1078 e762 ?_
        obtain ⟨u769, ec768, e⟩ := bA_some e
        obtain ⟨fs767, eo766⟩ := isC_some ec768
        obtain ⟨r765, h763, e764, e⟩ := b2_some e
        refine a_callV (as := [.int v761]) (rest := [.int r754]) C m_X12_restore im_X12_restore cb11 se_X12_X12_restore_X12_restore ml_L_124 rfl (Nat.le_of_ble_eq_true rfl) (Nat.le_of_ble_eq_true rfl) (by show ce ≤ (600000 : Nat); omega) (by show sl ≤ (7302250 : Nat); omega) (Nat.le_of_ble_eq_true rfl) dL_law_1079 eo766 (k_X12_restore e764) rfl ?_
        show AW G lo ce sl 1082 [(0, .ref b), (1, .ref (lo + x1)), (2, .ref (lo + x2)), (3, .int x3)] [.int r765, .int r754] h763
        refine a_icmp_eq (tgt := 1235) C dL_law_1082 (by decide) (fun c772 => ?_) (fun c772 => ?_)
        · have e := ip c772 e
          refine a_iinc (v := x3 + (7 : Int32)) (lv2 := [(3, .int (x3 + (7 : Int32))), (0, .ref b), (1, .ref (lo + x1)), (2, .ref (lo + x2))]) C dL_law_1235 3 rfl rfl (by decide) rfl ?_
          refine a_goto (tgt := 18) C dL_law_1238 (by decide) ?_
          exact a_sub [1, 2, 3, 0] rfl (a_widen (ce2 := ce + 120) (sl2 := sl + 480) (by omega) (by omega) (ih _ _ _ _ (by omega) (by omega) e))
        · have e := iN c772 e
          refine a_iconst (v := (0 : Int32)) C dL_law_1085 (by decide) ?_
          exact absurd (sp2 e).1 (by decide)
      have e := iN c749 e
      by_cases c773 : x24 = (26 : Int32)
      · have e := ip c773 e
        refine a_tableIn (tgt := 1087) C dL_law_33 (by rw [c773]; decide) (by rw [c773]; decide) (by rw [c773]; first | done | rfl) (by decide) ?_
        refine a_aload_n C dL_law_1087 rfl 1 rfl ?_
        refine a_aload_n C dL_law_1088 rfl 0 rfl ?_
        refine a_iload_n C dL_law_1089 rfl 3 rfl ?_
        refine a_iconst (v := (1 : Int32)) C dL_law_1090 (by decide) ?_
        refine a_iadd C dL_law_1091 ?_
        obtain ⟨v774, e775, e⟩ := bA_some e
        refine a_sld C X dL_law_1092 e775 ?_
        obtain ⟨u782, ec781, e⟩ := bA_some e
        obtain ⟨fs780, eo779⟩ := isC_some ec781
        obtain ⟨r778, h776, e777, e⟩ := b2_some e
        refine a_callV (as := [.int v774]) (rest := []) C m_X11_kind im_X11_kind cb10 se_X11_X11_kind_X11_kind ml_L_125 rfl (Nat.le_of_ble_eq_true rfl) (Nat.le_of_ble_eq_true rfl) (by show ce ≤ (600000 : Nat); omega) (by show sl ≤ (7302250 : Nat); omega) (Nat.le_of_ble_eq_true rfl) dL_law_1093 eo779 (k_X11_kind e777) rfl ?_
        show AW G lo ce sl 1096 [(0, .ref b), (1, .ref (lo + x1)), (2, .ref (lo + x2)), (3, .int x3)] [.int r778] h776
        refine a_aload_n C dL_law_1096 rfl 2 rfl ?_
        refine a_aload_n C dL_law_1097 rfl 0 rfl ?_
        refine a_iload_n C dL_law_1098 rfl 3 rfl ?_
        refine a_iconst (v := (1 : Int32)) C dL_law_1099 (by decide) ?_
        refine a_iadd C dL_law_1100 ?_
        obtain ⟨v785, e786, e⟩ := bA_some e
        refine a_sld C X dL_law_1101 e786 ?_
        obtain ⟨u793, ec792, e⟩ := bA_some e
        obtain ⟨fs791, eo790⟩ := isC_some ec792
        obtain ⟨r789, h787, e788, e⟩ := b2_some e
        refine a_callV (as := [.int v785]) (rest := [.int r778]) C m_X12_kind im_X12_kind cb11 se_X12_X12_kind_X12_kind ml_L_128 rfl (Nat.le_of_ble_eq_true rfl) (Nat.le_of_ble_eq_true rfl) (by show ce ≤ (600000 : Nat); omega) (by show sl ≤ (7302250 : Nat); omega) (Nat.le_of_ble_eq_true rfl) dL_law_1102 eo790 (k_X12_kind e788) rfl ?_
        show AW G lo ce sl 1105 [(0, .ref b), (1, .ref (lo + x1)), (2, .ref (lo + x2)), (3, .int x3)] [.int r789, .int r778] h787
        refine a_icmp_eq (tgt := 1235) C dL_law_1105 (by decide) (fun c796 => ?_) (fun c796 => ?_)
        · have e := ip c796 e
          refine a_iinc (v := x3 + (7 : Int32)) (lv2 := [(3, .int (x3 + (7 : Int32))), (0, .ref b), (1, .ref (lo + x1)), (2, .ref (lo + x2))]) C dL_law_1235 3 rfl rfl (by decide) rfl ?_
          refine a_goto (tgt := 18) C dL_law_1238 (by decide) ?_
          exact a_sub [1, 2, 3, 0] rfl (a_widen (ce2 := ce + 120) (sl2 := sl + 480) (by omega) (by omega) (ih _ _ _ _ (by omega) (by omega) e))
        · have e := iN c796 e
          refine a_iconst (v := (0 : Int32)) C dL_law_1108 (by decide) ?_
          exact absurd (sp2 e).1 (by decide)
      have e := iN c773 e
      by_cases c797 : x24 = (27 : Int32)
      · have e := ip c797 e
        refine a_tableIn (tgt := 1110) C dL_law_33 (by rw [c797]; decide) (by rw [c797]; decide) (by rw [c797]; first | done | rfl) (by decide) ?_
        refine a_aload_n C dL_law_1110 rfl 1 rfl ?_
        refine a_aload_n C dL_law_1111 rfl 0 rfl ?_
        refine a_iload_n C dL_law_1112 rfl 3 rfl ?_
        refine a_iconst (v := (1 : Int32)) C dL_law_1113 (by decide) ?_
        refine a_iadd C dL_law_1114 ?_
        obtain ⟨v798, e799, e⟩ := bA_some e
        refine a_sld C X dL_law_1115 e799 ?_
        refine a_aload_n C dL_law_1116 rfl 0 rfl ?_
        refine a_iload_n C dL_law_1117 rfl 3 rfl ?_
        refine a_iconst (v := (2 : Int32)) C dL_law_1118 (by decide) ?_
        refine a_iadd C dL_law_1119 ?_
        obtain ⟨v800, e801, e⟩ := bA_some e
        refine a_sld C X dL_law_1120 e801 ?_
        obtain ⟨u808, ec807, e⟩ := bA_some e
        obtain ⟨fs806, eo805⟩ := isC_some ec807
        obtain ⟨r804, h802, e803, e⟩ := b2_some e
        refine a_callV (as := [.int v798, .int v800]) (rest := []) C m_X11_as im_X11_as cb10 se_X11_X11_as_X11_as ml_L_129 rfl (Nat.le_of_ble_eq_true rfl) (Nat.le_of_ble_eq_true rfl) (by show ce ≤ (600000 : Nat); omega) (by show sl ≤ (7302250 : Nat); omega) (Nat.le_of_ble_eq_true rfl) dL_law_1121 eo805 (k_X11_as e803) rfl ?_
        show AW G lo ce sl 1124 [(0, .ref b), (1, .ref (lo + x1)), (2, .ref (lo + x2)), (3, .int x3)] [.int r804] h802
        refine a_aload_n C dL_law_1124 rfl 2 rfl ?_
        refine a_aload_n C dL_law_1125 rfl 0 rfl ?_
        refine a_iload_n C dL_law_1126 rfl 3 rfl ?_
        refine a_iconst (v := (1 : Int32)) C dL_law_1127 (by decide) ?_
        refine a_iadd C dL_law_1128 ?_
        obtain ⟨v811, e812, e⟩ := bA_some e
        refine a_sld C X dL_law_1129 e812 ?_
        refine a_aload_n C dL_law_1130 rfl 0 rfl ?_
        refine a_iload_n C dL_law_1131 rfl 3 rfl ?_
        refine a_iconst (v := (2 : Int32)) C dL_law_1132 (by decide) ?_
        refine a_iadd C dL_law_1133 ?_
        obtain ⟨v813, e814, e⟩ := bA_some e
        refine a_sld C X dL_law_1134 e814 ?_
        obtain ⟨u821, ec820, e⟩ := bA_some e
        obtain ⟨fs819, eo818⟩ := isC_some ec820
        obtain ⟨r817, h815, e816, e⟩ := b2_some e
        refine a_callV (as := [.int v811, .int v813]) (rest := [.int r804]) C m_X12_as im_X12_as cb11 se_X12_X12_as_X12_as ml_L_132 rfl (Nat.le_of_ble_eq_true rfl) (Nat.le_of_ble_eq_true rfl) (by show ce ≤ (600000 : Nat); omega) (by show sl ≤ (7302250 : Nat); omega) (Nat.le_of_ble_eq_true rfl) dL_law_1135 eo818 (k_X12_as e816) rfl ?_
        show AW G lo ce sl 1138 [(0, .ref b), (1, .ref (lo + x1)), (2, .ref (lo + x2)), (3, .int x3)] [.int r817, .int r804] h815
        refine a_icmp_eq (tgt := 1235) C dL_law_1138 (by decide) (fun c824 => ?_) (fun c824 => ?_)
        · have e := ip c824 e
          refine a_iinc (v := x3 + (7 : Int32)) (lv2 := [(3, .int (x3 + (7 : Int32))), (0, .ref b), (1, .ref (lo + x1)), (2, .ref (lo + x2))]) C dL_law_1235 3 rfl rfl (by decide) rfl ?_
          refine a_goto (tgt := 18) C dL_law_1238 (by decide) ?_
          exact a_sub [1, 2, 3, 0] rfl (a_widen (ce2 := ce + 120) (sl2 := sl + 480) (by omega) (by omega) (ih _ _ _ _ (by omega) (by omega) e))
        · have e := iN c824 e
          refine a_iconst (v := (0 : Int32)) C dL_law_1141 (by decide) ?_
          exact absurd (sp2 e).1 (by decide)
      have e := iN c797 e
      by_cases c825 : x24 = (28 : Int32)
      · have e := ip c825 e
        refine a_tableIn (tgt := 1143) C dL_law_33 (by rw [c825]; decide) (by rw [c825]; decide) (by rw [c825]; first | done | rfl) (by decide) ?_
        refine a_aload_n C dL_law_1143 rfl 1 rfl ?_
        refine a_aload_n C dL_law_1144 rfl 0 rfl ?_
        refine a_iload_n C dL_law_1145 rfl 3 rfl ?_
        refine a_iconst (v := (1 : Int32)) C dL_law_1146 (by decide) ?_
        refine a_iadd C dL_law_1147 ?_
        obtain ⟨v826, e827, e⟩ := bA_some e
        refine a_sld C X dL_law_1148 e827 ?_
        refine a_aload_n C dL_law_1149 rfl 0 rfl ?_
        refine a_iload_n C dL_law_1150 rfl 3 rfl ?_
        refine a_iconst (v := (2 : Int32)) C dL_law_1151 (by decide) ?_
        refine a_iadd C dL_law_1152 ?_
        obtain ⟨v828, e829, e⟩ := bA_some e
        refine a_sld C X dL_law_1153 e829 ?_
        obtain ⟨u836, ec835, e⟩ := bA_some e
        obtain ⟨fs834, eo833⟩ := isC_some ec835
        obtain ⟨r832, h830, e831, e⟩ := b2_some e
        refine a_callV (as := [.int v826, .int v828]) (rest := []) C m_X11_ask im_X11_ask cb10 se_X11_X11_ask_X11_ask ml_L_133 rfl (Nat.le_of_ble_eq_true rfl) (Nat.le_of_ble_eq_true rfl) (by show ce ≤ (600000 : Nat); omega) (by show sl ≤ (7302250 : Nat); omega) (Nat.le_of_ble_eq_true rfl) dL_law_1154 eo833 (k_X11_ask e831) rfl ?_
        show AW G lo ce sl 1157 [(0, .ref b), (1, .ref (lo + x1)), (2, .ref (lo + x2)), (3, .int x3)] [.int r832] h830
        refine a_aload_n C dL_law_1157 rfl 2 rfl ?_
        refine a_aload_n C dL_law_1158 rfl 0 rfl ?_
        refine a_iload_n C dL_law_1159 rfl 3 rfl ?_
        refine a_iconst (v := (1 : Int32)) C dL_law_1160 (by decide) ?_
        refine a_iadd C dL_law_1161 ?_
        obtain ⟨v839, e840, e⟩ := bA_some e
        refine a_sld C X dL_law_1162 e840 ?_
        refine a_aload_n C dL_law_1163 rfl 0 rfl ?_
        refine a_iload_n C dL_law_1164 rfl 3 rfl ?_
        refine a_iconst (v := (2 : Int32)) C dL_law_1165 (by decide) ?_
        refine a_iadd C dL_law_1166 ?_
        obtain ⟨v841, e842, e⟩ := bA_some e
        refine a_sld C X dL_law_1167 e842 ?_
        obtain ⟨u849, ec848, e⟩ := bA_some e
        obtain ⟨fs847, eo846⟩ := isC_some ec848
        obtain ⟨r845, h843, e844, e⟩ := b2_some e
        refine a_callV (as := [.int v839, .int v841]) (rest := [.int r832]) C m_X12_ask im_X12_ask cb11 se_X12_X12_ask_X12_ask ml_L_136 rfl (Nat.le_of_ble_eq_true rfl) (Nat.le_of_ble_eq_true rfl) (by show ce ≤ (600000 : Nat); omega) (by show sl ≤ (7302250 : Nat); omega) (Nat.le_of_ble_eq_true rfl) dL_law_1168 eo846 (k_X12_ask e844) rfl ?_
        show AW G lo ce sl 1171 [(0, .ref b), (1, .ref (lo + x1)), (2, .ref (lo + x2)), (3, .int x3)] [.int r845, .int r832] h843
        refine a_icmp_eq (tgt := 1235) C dL_law_1171 (by decide) (fun c852 => ?_) (fun c852 => ?_)
        · have e := ip c852 e
          refine a_iinc (v := x3 + (7 : Int32)) (lv2 := [(3, .int (x3 + (7 : Int32))), (0, .ref b), (1, .ref (lo + x1)), (2, .ref (lo + x2))]) C dL_law_1235 3 rfl rfl (by decide) rfl ?_
          refine a_goto (tgt := 18) C dL_law_1238 (by decide) ?_
          exact a_sub [1, 2, 3, 0] rfl (a_widen (ce2 := ce + 120) (sl2 := sl + 480) (by omega) (by omega) (ih _ _ _ _ (by omega) (by omega) e))
        · have e := iN c852 e
          refine a_iconst (v := (0 : Int32)) C dL_law_1174 (by decide) ?_
          exact absurd (sp2 e).1 (by decide)
      have e := iN c825 e
      by_cases c853 : x24 = (29 : Int32)
      · have e := ip c853 e
        refine a_tableIn (tgt := 1176) C dL_law_33 (by rw [c853]; decide) (by rw [c853]; decide) (by rw [c853]; first | done | rfl) (by decide) ?_
        refine a_aload_n C dL_law_1176 rfl 1 rfl ?_
        refine a_aload_n C dL_law_1177 rfl 0 rfl ?_
        refine a_iload_n C dL_law_1178 rfl 3 rfl ?_
        refine a_iconst (v := (1 : Int32)) C dL_law_1179 (by decide) ?_
        refine a_iadd C dL_law_1180 ?_
        obtain ⟨v854, e855, e⟩ := bA_some e
        refine a_sld C X dL_law_1181 e855 ?_
        obtain ⟨u862, ec861, e⟩ := bA_some e
        obtain ⟨fs860, eo859⟩ := isC_some ec861
        obtain ⟨r858, h856, e857, e⟩ := b2_some e
        refine a_callV (as := [.int v854]) (rest := []) C m_X11_trace im_X11_trace cb10 se_X11_X11_trace_X11_trace ml_L_137 rfl (Nat.le_of_ble_eq_true rfl) (Nat.le_of_ble_eq_true rfl) (by show ce ≤ (600000 : Nat); omega) (by show sl ≤ (7302250 : Nat); omega) (Nat.le_of_ble_eq_true rfl) dL_law_1182 eo859 (k_X11_trace e857) rfl ?_
        show AW G lo ce sl 1185 [(0, .ref b), (1, .ref (lo + x1)), (2, .ref (lo + x2)), (3, .int x3)] [.int r858] h856
        refine a_aload_n C dL_law_1185 rfl 2 rfl ?_
        refine a_aload_n C dL_law_1186 rfl 0 rfl ?_
        refine a_iload_n C dL_law_1187 rfl 3 rfl ?_
        refine a_iconst (v := (1 : Int32)) C dL_law_1188 (by decide) ?_
        refine a_iadd C dL_law_1189 ?_
        obtain ⟨v865, e866, e⟩ := bA_some e
        refine a_sld C X dL_law_1190 e866 ?_
        obtain ⟨u873, ec872, e⟩ := bA_some e
        obtain ⟨fs871, eo870⟩ := isC_some ec872
        obtain ⟨r869, h867, e868, e⟩ := b2_some e
        refine a_callV (as := [.int v865]) (rest := [.int r858]) C m_X12_trace im_X12_trace cb11 se_X12_X12_trace_X12_trace ml_L_140 rfl (Nat.le_of_ble_eq_true rfl) (Nat.le_of_ble_eq_true rfl) (by show ce ≤ (600000 : Nat); omega) (by show sl ≤ (7302250 : Nat); omega) (Nat.le_of_ble_eq_true rfl) dL_law_1191 eo870 (k_X12_trace e868) rfl ?_
        show AW G lo ce sl 1194 [(0, .ref b), (1, .ref (lo + x1)), (2, .ref (lo + x2)), (3, .int x3)] [.int r869, .int r858] h867
        refine a_icmp_eq (tgt := 1235) C dL_law_1194 (by decide) (fun c876 => ?_) (fun c876 => ?_)
        · have e := ip c876 e
          refine a_iinc (v := x3 + (7 : Int32)) (lv2 := [(3, .int (x3 + (7 : Int32))), (0, .ref b), (1, .ref (lo + x1)), (2, .ref (lo + x2))]) C dL_law_1235 3 rfl rfl (by decide) rfl ?_
          refine a_goto (tgt := 18) C dL_law_1238 (by decide) ?_
          exact a_sub [1, 2, 3, 0] rfl (a_widen (ce2 := ce + 120) (sl2 := sl + 480) (by omega) (by omega) (ih _ _ _ _ (by omega) (by omega) e))
        · have e := iN c876 e
          refine a_iconst (v := (0 : Int32)) C dL_law_1197 (by decide) ?_
          exact absurd (sp2 e).1 (by decide)
      have e := iN c853 e
      by_cases c877 : x24 = (30 : Int32)
      · have e := ip c877 e
        refine a_tableIn (tgt := 1199) C dL_law_33 (by rw [c877]; decide) (by rw [c877]; decide) (by rw [c877]; first | done | rfl) (by decide) ?_
        refine a_aload_n C dL_law_1199 rfl 1 rfl ?_
        refine a_aload_n C dL_law_1200 rfl 0 rfl ?_
        refine a_iload_n C dL_law_1201 rfl 3 rfl ?_
        refine a_iconst (v := (1 : Int32)) C dL_law_1202 (by decide) ?_
        refine a_iadd C dL_law_1203 ?_
        obtain ⟨v878, e879, e⟩ := bA_some e
        refine a_sld C X dL_law_1204 e879 ?_
        obtain ⟨u886, ec885, e⟩ := bA_some e
        obtain ⟨fs884, eo883⟩ := isC_some ec885
        obtain ⟨r882, h880, e881, e⟩ := b2_some e
        refine a_callV (as := [.int v878]) (rest := []) C m_X11_count im_X11_count cb10 se_X11_X11_count_X11_count ml_L_141 rfl (Nat.le_of_ble_eq_true rfl) (Nat.le_of_ble_eq_true rfl) (by show ce ≤ (600000 : Nat); omega) (by show sl ≤ (7302250 : Nat); omega) (Nat.le_of_ble_eq_true rfl) dL_law_1205 eo883 (k_X11_count e881) rfl ?_
        show AW G lo ce sl 1208 [(0, .ref b), (1, .ref (lo + x1)), (2, .ref (lo + x2)), (3, .int x3)] [.int r882] h880
        refine a_aload_n C dL_law_1208 rfl 2 rfl ?_
        refine a_aload_n C dL_law_1209 rfl 0 rfl ?_
        refine a_iload_n C dL_law_1210 rfl 3 rfl ?_
        refine a_iconst (v := (1 : Int32)) C dL_law_1211 (by decide) ?_
        refine a_iadd C dL_law_1212 ?_
        obtain ⟨v889, e890, e⟩ := bA_some e
        refine a_sld C X dL_law_1213 e890 ?_
        obtain ⟨u897, ec896, e⟩ := bA_some e
        obtain ⟨fs895, eo894⟩ := isC_some ec896
        obtain ⟨r893, h891, e892, e⟩ := b2_some e
        refine a_callV (as := [.int v889]) (rest := [.int r882]) C m_X12_count im_X12_count cb11 se_X12_X12_count_X12_count ml_L_144 rfl (Nat.le_of_ble_eq_true rfl) (Nat.le_of_ble_eq_true rfl) (by show ce ≤ (600000 : Nat); omega) (by show sl ≤ (7302250 : Nat); omega) (Nat.le_of_ble_eq_true rfl) dL_law_1214 eo894 (k_X12_count e892) rfl ?_
        show AW G lo ce sl 1217 [(0, .ref b), (1, .ref (lo + x1)), (2, .ref (lo + x2)), (3, .int x3)] [.int r893, .int r882] h891
        refine a_icmp_eq (tgt := 1235) C dL_law_1217 (by decide) (fun c900 => ?_) (fun c900 => ?_)
        · have e := ip c900 e
          refine a_iinc (v := x3 + (7 : Int32)) (lv2 := [(3, .int (x3 + (7 : Int32))), (0, .ref b), (1, .ref (lo + x1)), (2, .ref (lo + x2))]) C dL_law_1235 3 rfl rfl (by decide) rfl ?_
          refine a_goto (tgt := 18) C dL_law_1238 (by decide) ?_
          exact a_sub [1, 2, 3, 0] rfl (a_widen (ce2 := ce + 120) (sl2 := sl + 480) (by omega) (by omega) (ih _ _ _ _ (by omega) (by omega) e))
        · have e := iN c900 e
          refine a_iconst (v := (0 : Int32)) C dL_law_1220 (by decide) ?_
          exact absurd (sp2 e).1 (by decide)
      have e := iN c877 e
      by_cases c901 : x24 = (31 : Int32)
      · have e := ip c901 e
        refine a_tableIn (tgt := 1222) C dL_law_33 (by rw [c901]; decide) (by rw [c901]; decide) (by rw [c901]; first | done | rfl) (by decide) ?_
        refine a_aload_n C dL_law_1222 rfl 1 rfl ?_
        obtain ⟨u908, ec907, e⟩ := bA_some e
        obtain ⟨fs906, eo905⟩ := isC_some ec907
        obtain ⟨r904, h902, e903, e⟩ := b2_some e
        refine a_callV (as := []) (rest := []) C m_X11_status im_X11_status cb10 se_X11_X11_status_X11_status ml_L_145 rfl (Nat.le_of_ble_eq_true rfl) (Nat.le_of_ble_eq_true rfl) (by show ce ≤ (600000 : Nat); omega) (by show sl ≤ (7302250 : Nat); omega) (Nat.le_of_ble_eq_true rfl) dL_law_1223 eo905 (k_X11_status e903) rfl ?_
        show AW G lo ce sl 1226 [(0, .ref b), (1, .ref (lo + x1)), (2, .ref (lo + x2)), (3, .int x3)] [.int r904] h902
        refine a_aload_n C dL_law_1226 rfl 2 rfl ?_
        obtain ⟨u917, ec916, e⟩ := bA_some e
        obtain ⟨fs915, eo914⟩ := isC_some ec916
        obtain ⟨r913, h911, e912, e⟩ := b2_some e
        refine a_callV (as := []) (rest := [.int r904]) C m_X12_status im_X12_status cb11 se_X12_X12_status_X12_status ml_L_148 rfl (Nat.le_of_ble_eq_true rfl) (Nat.le_of_ble_eq_true rfl) (by show ce ≤ (600000 : Nat); omega) (by show sl ≤ (7302250 : Nat); omega) (Nat.le_of_ble_eq_true rfl) dL_law_1227 eo914 (k_X12_status e912) rfl ?_
        show AW G lo ce sl 1230 [(0, .ref b), (1, .ref (lo + x1)), (2, .ref (lo + x2)), (3, .int x3)] [.int r913, .int r904] h911
        refine a_icmp_eq (tgt := 1235) C dL_law_1230 (by decide) (fun c920 => ?_) (fun c920 => ?_)
        · have e := ip c920 e
          refine a_iinc (v := x3 + (7 : Int32)) (lv2 := [(3, .int (x3 + (7 : Int32))), (0, .ref b), (1, .ref (lo + x1)), (2, .ref (lo + x2))]) C dL_law_1235 3 rfl rfl (by decide) rfl ?_
          refine a_goto (tgt := 18) C dL_law_1238 (by decide) ?_
          exact a_sub [1, 2, 3, 0] rfl (a_widen (ce2 := ce + 120) (sl2 := sl + 480) (by omega) (by omega) (ih _ _ _ _ (by omega) (by omega) e))
        · have e := iN c920 e
          refine a_iconst (v := (0 : Int32)) C dL_law_1233 (by decide) ?_
          exact absurd (sp2 e).1 (by decide)
      have e := iN c901 e
      refine a_tableOut (tgt := 1235) C dL_law_33 (Classical.byContradiction fun hz => ?_) (by decide) ?_
      · have hz2 : x24.toInt = 0 ∨ x24.toInt = 1 ∨ x24.toInt = 2 ∨ x24.toInt = 3 ∨ x24.toInt = 4 ∨ x24.toInt = 5 ∨ x24.toInt = 6 ∨ x24.toInt = 7 ∨ x24.toInt = 8 ∨ x24.toInt = 9 ∨ x24.toInt = 10 ∨ x24.toInt = 11 ∨ x24.toInt = 12 ∨ x24.toInt = 13 ∨ x24.toInt = 14 ∨ x24.toInt = 15 ∨ x24.toInt = 16 ∨ x24.toInt = 17 ∨ x24.toInt = 18 ∨ x24.toInt = 19 ∨ x24.toInt = 20 ∨ x24.toInt = 21 ∨ x24.toInt = 22 ∨ x24.toInt = 23 ∨ x24.toInt = 24 ∨ x24.toInt = 25 ∨ x24.toInt = 26 ∨ x24.toInt = 27 ∨ x24.toInt = 28 ∨ x24.toInt = 29 ∨ x24.toInt = 30 ∨ x24.toInt = 31 := by omega
        rcases hz2 with hz3 | hz3 | hz3 | hz3 | hz3 | hz3 | hz3 | hz3 | hz3 | hz3 | hz3 | hz3 | hz3 | hz3 | hz3 | hz3 | hz3 | hz3 | hz3 | hz3 | hz3 | hz3 | hz3 | hz3 | hz3 | hz3 | hz3 | hz3 | hz3 | hz3 | hz3 | hz3
        · exact c25 (Int32.toInt_inj.mp (hz3.trans (by decide)))
        · exact c57 (Int32.toInt_inj.mp (hz3.trans (by decide)))
        · exact c89 (Int32.toInt_inj.mp (hz3.trans (by decide)))
        · exact c129 (Int32.toInt_inj.mp (hz3.trans (by decide)))
        · exact c153 (Int32.toInt_inj.mp (hz3.trans (by decide)))
        · exact c177 (Int32.toInt_inj.mp (hz3.trans (by decide)))
        · exact c197 (Int32.toInt_inj.mp (hz3.trans (by decide)))
        · exact c217 (Int32.toInt_inj.mp (hz3.trans (by decide)))
        · exact c237 (Int32.toInt_inj.mp (hz3.trans (by decide)))
        · exact c269 (Int32.toInt_inj.mp (hz3.trans (by decide)))
        · exact c293 (Int32.toInt_inj.mp (hz3.trans (by decide)))
        · exact c317 (Int32.toInt_inj.mp (hz3.trans (by decide)))
        · exact c345 (Int32.toInt_inj.mp (hz3.trans (by decide)))
        · exact c373 (Int32.toInt_inj.mp (hz3.trans (by decide)))
        · exact c401 (Int32.toInt_inj.mp (hz3.trans (by decide)))
        · exact c429 (Int32.toInt_inj.mp (hz3.trans (by decide)))
        · exact c465 (Int32.toInt_inj.mp (hz3.trans (by decide)))
        · exact c493 (Int32.toInt_inj.mp (hz3.trans (by decide)))
        · exact c529 (Int32.toInt_inj.mp (hz3.trans (by decide)))
        · exact c557 (Int32.toInt_inj.mp (hz3.trans (by decide)))
        · exact c585 (Int32.toInt_inj.mp (hz3.trans (by decide)))
        · exact c609 (Int32.toInt_inj.mp (hz3.trans (by decide)))
        · exact c653 (Int32.toInt_inj.mp (hz3.trans (by decide)))
        · exact c693 (Int32.toInt_inj.mp (hz3.trans (by decide)))
        · exact c725 (Int32.toInt_inj.mp (hz3.trans (by decide)))
        · exact c749 (Int32.toInt_inj.mp (hz3.trans (by decide)))
        · exact c773 (Int32.toInt_inj.mp (hz3.trans (by decide)))
        · exact c797 (Int32.toInt_inj.mp (hz3.trans (by decide)))
        · exact c825 (Int32.toInt_inj.mp (hz3.trans (by decide)))
        · exact c853 (Int32.toInt_inj.mp (hz3.trans (by decide)))
        · exact c877 (Int32.toInt_inj.mp (hz3.trans (by decide)))
        · exact c901 (Int32.toInt_inj.mp (hz3.trans (by decide)))
      · refine a_iinc (v := x3 + (7 : Int32)) (lv2 := [(3, .int (x3 + (7 : Int32))), (0, .ref b), (1, .ref (lo + x1)), (2, .ref (lo + x2))]) C dL_law_1235 3 rfl rfl (by decide) rfl ?_
        refine a_goto (tgt := 18) C dL_law_1238 (by decide) ?_
        exact a_sub [1, 2, 3, 0] rfl (a_widen (ce2 := ce + 120) (sl2 := sl + 480) (by omega) (by omega) (ih _ _ _ _ (by omega) (by omega) e))
set_option maxRecDepth 100000 in
set_option maxHeartbeats 4000000 in
theorem w_L_law {G : Gm} {lo b L : Nat} {xs : Nat → Int32} (C : CX G lo cL_law RL ret room_1 4) (X : SX G lo b L xs) {h h' : Hp} (e : f_L_law xs L h = some ((1 : Int32), h')) : AW G lo 0 0 0 [(0, .ref b)] [] h := by
  unfold f_L_law at e
  refine a_new C cb10 [.inr none, .inr none, .inr none, .inr none, .inr none, .inr none, .inr none, .inr none, .inr none, .inr none, .inr none, .inr none, .inl 0, .inl 0, .inl 0, .inl 0] kl_L_7 ins_X11 ini_X11 (by decide) rfl (Nat.le_of_ble_eq_true rfl) (Nat.le_of_ble_eq_true rfl) dL_law_0 ?_
  obtain ⟨q2, h1, e0_q2, e1_h1, e⟩ := nw_some e
  rw [← e0_q2, ← e1_h1]
  show AW G lo 1 16 3 [(0, .ref b)] [.ref (lo + q2)] h1
  refine a_dup C dL_law_3 rfl ?_
  obtain ⟨h3, e4, e⟩ := bA_some e
  refine a_callI (as := []) (rest := [.ref (lo + q2)]) C m_X11_init rfl im_X11_init ml_L_9 rfl (Nat.le_of_ble_eq_true rfl) (Nat.le_of_ble_eq_true rfl) (Nat.le_of_ble_eq_true rfl) (Nat.le_of_ble_eq_true rfl) (Nat.le_of_ble_eq_true rfl) dL_law_4 (k_X11_init e4) rfl ?_
  show AW G lo 176 1877 7 [(0, .ref b)] [.ref (lo + q2)] h3
  refine a_astore_n (lv2 := [(1, .ref (lo + q2)), (0, .ref b)]) C dL_law_7 rfl (by decide) rfl ?_
  refine a_new C cb11 [.inl 0, .inl 0, .inr none, .inr none, .inr none, .inr none, .inr none, .inr none, .inr none, .inl 0, .inr none, .inl 0, .inl 0, .inl 0, .inl 0, .inl 0, .inl 0, .inl 0, .inl 0, .inr none, .inr none, .inl 0, .inl 0, .inl 0, .inl 0, .inl 0, .inr none, .inl 0, .inr none, .inr none, .inr none, .inl 0] kl_L_10 ins_X12 ini_X12 (by decide) rfl (Nat.le_of_ble_eq_true rfl) (Nat.le_of_ble_eq_true rfl) dL_law_8 ?_
  obtain ⟨q12, h11, e0_q12, e1_h11, e⟩ := nw_some e
  rw [← e0_q12, ← e1_h11]
  show AW G lo 177 1909 11 [(1, .ref (lo + q2)), (0, .ref b)] [.ref (lo + q12)] h11
  refine a_dup C dL_law_11 rfl ?_
  obtain ⟨h13, e14, e⟩ := bA_some e
  refine a_callI (as := []) (rest := [.ref (lo + q12)]) C m_X12_init rfl im_X12_init ml_L_12 rfl (Nat.le_of_ble_eq_true rfl) (Nat.le_of_ble_eq_true rfl) (Nat.le_of_ble_eq_true rfl) (Nat.le_of_ble_eq_true rfl) (Nat.le_of_ble_eq_true rfl) dL_law_12 (k_X12_init e14) rfl ?_
  show AW G lo 191 3975 15 [(1, .ref (lo + q2)), (0, .ref b)] [.ref (lo + q12)] h13
  refine a_astore_n (lv2 := [(2, .ref (lo + q12)), (1, .ref (lo + q2)), (0, .ref b)]) C dL_law_15 rfl (by decide) rfl ?_
  refine a_iconst (v := (0 : Int32)) C dL_law_16 (by decide) ?_
  refine a_istore_n (lv2 := [(3, .int (0 : Int32)), (2, .ref (lo + q12)), (1, .ref (lo + q2)), (0, .ref b)]) C dL_law_17 rfl (by decide) rfl ?_
  refine a_sub [3, 2, 1, 0] rfl (w_L_law_L18 (cx := 61751) (sx := 250215) C X (Nat.le_of_ble_eq_true rfl) (Nat.le_of_ble_eq_true rfl) ?_ 513 _ _ _ _ (Nat.le_of_ble_eq_true rfl) (Nat.le_of_ble_eq_true rfl) e)
  intro h921 y922 e
  show AW G lo 61751 250215 1241 [(0, .ref b), (1, .ref (lo + q2)), (2, .ref (lo + q12)), (3, .int y922)] [] h921
  refine a_iconst (v := (1 : Int32)) C dL_law_1241 (by decide) ?_
  exact a_law C X (Nat.le_of_ble_eq_true rfl) (Nat.le_of_ble_eq_true rfl) dL_law_1242
