/-! A METHOD'S CONTRACT at one heap: from h with these arguments it returns rv, and the heap is h' -/
def MN (G : Gm) (nm : String) : Prop := match G with
  | (p, l, e, R, s, m, args, below, meth, c, Q, d, nL) => meth.name = nm
def QH (d : DD) (lo : Nat) (rv : Option Value) (h' : Hp) : Array Value → State → Outcome → State → Prop := fun _ st o t => o = .returned rv ∧ HP d lo h' t.heap ∧ va_F (fun q => lo ≤ q) st t
def AC (l : Launch) (d : DD) (lo : Nat) (y : MethodName) (cy : ByteArray) (nL : Nat) (ret : Option FieldType) (rm : Room) (as : List Value) (h : Hp) (rv : Option Value) (h' : Hp) : Prop :=
  Met l y (.code y cy nL ret :: gw) rm (va_Pc as (fun U => KK d U ∧ HP d lo h U.heap)) (QH d lo rv h') rm.cells rm.slots (fun q => lo ≤ q)
def RQ (G : Gm) (lo : Nat) (rv : Option Value) (h' : Hp) (mc ms : Nat) : Prop := match G with
  | (p, l, e, R, s, m, args, below, meth, c, Q, d, nL) => Q = MQ below (QH d lo rv h') args s mc ms (fun q => lo ≤ q)
theorem blind {as : List Value} {d : DD} {lo : Nat} {h : Hp} : FrameBlind (va_Pc as (fun U => KK d U ∧ HP d lo h U.heap)) := fun a U g mk q => ⟨q.1, KK.same (s := U) (U := U.calling g mk a) rfl q.2.1, q.2.2⟩
theorem AC_of {l : Launch} {d : DD} {lo : Nat} {y : MethodName} {cy : ByteArray} {nL : Nat} {ret : Option FieldType} {rm : Room} {as : List Value} {h : Hp} {rv : Option Value} {h' : Hp} (hy : plainName y.cls = true) (hargs : (lg_sl as).length ≤ nL)
    (core : ∀ G : Gm, CX G lo cy y.cls ret rm nL → MN G y.name → LD G = (l, d) → RQ G lo rv h' rm.cells rm.slots → AW G lo 0 0 0 (lv_args 0 as) [] h) : AC l d lo y cy nL ret rm as h rv h' := by
  refine Met.ofW (cc := cy) (maxL := nL) (ret := ret) hy rfl ?_
  intro p e s m args below meth c s₁ B hml hv
  obtain ⟨rfl, hK, hH⟩ := hv
  have hts := atoms_spec (ws := .code y cy nL ret :: gw) B.pre
  have hown : s.vm.findClass y.cls = some m.cls := findClass_of_methodNamed B.named
  have hn : meth.name = y.name := (name_of_methodNamed B.named B.method).1
  have hlo : lo ≤ s.heap.size := by rw [hH.1]; exact Nat.le_add_right _ _
  have K := core (p, l, e, (headSpec (.code y cy nL ret :: gw) rm).room, s, m, as.toArray, below, meth, c, _, d, nL) ⟨B.exec, B.bytes, B.returns, hml, hown, fun w hw => hts w (List.mem_cons_of_mem _ hw), B.notSynchronized, hK, hlo, rfl, rfl⟩ hn rfl rfl
  rw [lg_entry_eq]
  exact K _ s.heap [] (lv_entry as hargs) hH va_S.rf
/-- a method's own words -/
def MI (y : MethodName) (cy : ByteArray) (nL : Nat) (ret : Option FieldType) (n : Nat) : Prop := Cond.code y cy nL ret ∈ gw ∧ Cond.initialized y.cls ∈ gw ∧ (y.cls ≠ "java/lang/invoke/MethodHandle" ∧ y.cls ≠ "java/lang/invoke/VarHandle") ∧ (parseMethodDescriptor y.desc).map (fun d => d.parameters.length) = some n
theorem gw_all {args : Array Value} {s : State} (hts : ∀ w ∈ gw, w.before args s = true) {cw : Cond} (hc : cw ∈ gw) : ∀ w ∈ cw :: gw, ∀ (a' : Array Value) (U : State), s.WarmedH U.vm → w.before a' U = true := fun w hw a' U hW => by
  have hm : w ∈ gw := (List.mem_cons.mp hw).elim (fun e => e ▸ hc) id
  exact word_at hW (good_of_word (List.mem_filter.mp hm).2) (hts w hm)
theorem sig_len {desc : String} {n : Nat} (h : (parseMethodDescriptor desc).map (fun d => d.parameters.length) = some n) : ∀ sig, parseMethodDescriptor desc = some sig → n = sig.parameters.length := fun sig hs => by
  rw [hs] at h
  exact (Option.some.inj h).symm
theorem mk_callB {R : Room} {s : State} {args : Array Value} {own : String} {idx nL n : Nat} {y : MethodName} {cy : ByteArray} {ret : Option FieldType} {rm : Room} (hts : ∀ w ∈ gw, w.before args s = true) (mi : MI y cy nL ret n) (hl : Cond.methodLink own idx y ∈ gw) (hfr : rm.frames + 1 ≤ R.frames) (hlo : 8 + (nL + 11) + rm.locals ≤ R.locals) : CallB R s args own idx y cy nL ret (.code y cy nL ret :: gw) rm rm.cells rm.slots n :=
  ⟨rfl, rfl, hfr, hlo, gw_all hts mi.1, List.mem_cons_self, hts _ mi.1, hts _ mi.2.1, mi.2.2.1, sig_len mi.2.2.2, hts _ hl⟩
theorem run_k {p : Program} {l : Launch} {e : Env} {R : Room} {s : State} {m : MethodId} {args : Array Value} {below : List Frame} {meth : Method} {c : Code} {H : Heap} {locs : List Loc} {ce sl mc ms pc lo : Nat} {Q : State → Prop} {d : DD} {h' : Hp} {rv : Option Value} {ls : Array Slot} {st0 rest : List Value} {aa : Array Value}
    (hr : va_Run p l e R s m args below meth c H locs ce sl mc ms (F0 m pc ls st0) rest (QH d lo rv h' aa) (fun q => lo ≤ q)) (hS : va_S (fun q => lo ≤ q) s.heap H locs)
    (kk : ∀ (H1 : Heap) (locs1 : List Loc), HP d lo h' H1 → va_S (fun q => lo ≤ q) s.heap H1 locs1 → W p l e R s m args below meth c H1 locs1 (ce + mc) (sl + ms) Q (F0 m (pc + 3) ls (rv.toList ++ rest))) : W p l e R s m args below meth c H locs ce sl Q (F0 m pc ls st0) := by
  intro T hT X
  obtain ⟨v, st₀, t, T', L, e0, X', hL, e1, e2, ⟨hq1, hq2, hq3⟩, go⟩ := hr T hT X
  cases hq1
  rw [va_F, e0] at hq3
  obtain ⟨z, a1, b1⟩ := kk t.heap (locs ++ L) hq2 ⟨Nat.le_trans hS.1 hq3.1, fun q g1 g2 => (hq3.2 q (Nat.lt_of_lt_of_le g1 hS.1) g2).trans (hS.2.1 q g1 g2), fun q hq => (List.mem_append.mp hq).elim (hS.2.2 q) (hL q)⟩ T' e1 X'
  exact ⟨z, go z a1, b1⟩
section Calls2
variable {G : Gm} {lo ce sl pc : Nat} {lv : List (Nat × Value)} {st : List Value} {h : Hp} {cc : ByteArray} {own : String} {ret : Option FieldType} {rm : Room} {nL0 : Nat}
variable {y : MethodName} {cy : ByteArray} {nLy n idx : Nat} {rety : Option FieldType} {rmy : Room} {as rest : List Value} {rv : Option Value} {h' : Hp} {b ci : Nat} {fs : List Vl} {CN : String}
theorem recv {d : DD} {s : State} {H : Heap} (hK : KK d s) (hH : HP d lo h H) (ho : gO h b = some (ci, fs)) {T : u_T} {N : Nat} (hc : vwCl[ci]? = some (CN, T, N)) : ∃ cell : Cell, H[lo + b]? = some cell ∧ cell.vm.isStatics = false ∧ s.vm.findClass CN = some cell.cls := by
  obtain ⟨ha, hb⟩ := gO_some ho
  obtain ⟨r, h1, cell, q1, q2, q3, q4⟩ := hH.at ha hb
  cases h1.symm.trans hc
  exact ⟨cell, q1, by rw [q3]; rfl, by rw [q2]; exact (hK.1.1 ci _ hc).2.1⟩
theorem a_callV (C : CX G lo cc own ret rm nL0) (mi : MI y cy nLy rety n) (hin : Cond.instanceMethod y ∈ gw) {T : u_T} {N : Nat} {ty : Nat → FieldType} (cb : CB ci CN T N ty) (hse : Cond.selects CN y y ∈ gw) (hl : Cond.methodLink own idx y ∈ gw) (hn : as.length = n) (hfr : rmy.frames + 1 ≤ rm.frames) (hlo : 8 + (nLy + 11) + rmy.locals ≤ rm.locals) (hce : ce + rmy.cells ≤ rm.cells) (hsl : sl + rmy.slots ≤ rm.slots) (hcat : (rest.map fun v => v.category).sum ≤ 8) (d : decode cc pc = .ok (.invokevirtual idx, 3)) (ho : gO h b = some (ci, fs))
    (hM : ∀ l d, AC l d lo y cy nLy rety rmy (.ref (lo + b) :: as) h rv h') (hst : st = as.reverse ++ .ref (lo + b) :: rest) (k : AW G lo (ce + rmy.cells) (sl + rmy.slots) (pc + 3) lv (rv.toList ++ rest) h') : AW G lo ce sl pc lv st h := by
  obtain ⟨p, l, e, R, s, m, args, below, meth, c, Q, dd, nL⟩ := G
  obtain ⟨hx, hb, hr, hml, hown, hts, hlk, hK, hlo', rfl, rfl⟩ := C
  intro ls H locs hlv hH hS
  subst hst
  exact run_k (va_runV (As := as) (rest := rest) (Ts := gw) ⟨hx, hb, hml, hown, hts⟩ (hM l dd) ⟨mk_callB hts mi hl hfr hlo, hts _ hin, hts _ hse⟩ ⟨blind, recv hK hH ho cb.1, fun U hU hW => ⟨rfl, KK.warm hW hK, by rw [hU]; exact hH⟩⟩ rfl hn hlv.1 rfl (lv_room hcat) d ⟨hce, hsl⟩) hS (fun H1 locs1 hH1 hS1 => k ls H1 locs1 hlv hH1 hS1)
theorem a_callS (C : CX G lo cc own ret rm nL0) (mi : MI y cy nLy rety n) (hin : Cond.static y ∈ gw) (hl : Cond.methodLink own idx y ∈ gw) (hn : as.length = n) (hfr : rmy.frames + 1 ≤ rm.frames) (hlo : 8 + (nLy + 11) + rmy.locals ≤ rm.locals) (hce : ce + rmy.cells ≤ rm.cells) (hsl : sl + rmy.slots ≤ rm.slots) (hcat : (rest.map fun v => v.category).sum ≤ 8) (d : decode cc pc = .ok (.invokestatic idx, 3))
    (hM : ∀ l d, AC l d lo y cy nLy rety rmy as h rv h') (hst : st = as.reverse ++ rest) (k : AW G lo (ce + rmy.cells) (sl + rmy.slots) (pc + 3) lv (rv.toList ++ rest) h') : AW G lo ce sl pc lv st h := by
  obtain ⟨p, l, e, R, s, m, args, below, meth, c, Q, dd, nL⟩ := G
  obtain ⟨hx, hb, hr, hml, hown, hts, hlk, hK, hlo', rfl, rfl⟩ := C
  intro ls H locs hlv hH hS
  subst hst
  exact run_k (va_runS (As := as) (rest := rest) (Ts := gw) ⟨hx, hb, hml, hown, hts⟩ (hM l dd) ⟨mk_callB hts mi hl hfr hlo, hts _ hin⟩ ⟨blind, fun U hU hW => ⟨rfl, KK.warm hW hK, by rw [hU]; exact hH⟩⟩ rfl hn hlv.1 rfl (lv_room hcat) d ⟨hce, hsl⟩) hS (fun H1 locs1 hH1 hS1 => k ls H1 locs1 hlv hH1 hS1)
theorem a_callI (C : CX G lo cc own ret rm nL0) (mi : MI y cy nLy none n) (hnm : y.name = "<init>") (hin : Cond.instanceMethod y ∈ gw) (hl : Cond.methodLink own idx y ∈ gw) (hn : as.length = n) (hfr : rmy.frames + 1 ≤ rm.frames) (hlo : 8 + (nLy + 11) + rmy.locals ≤ rm.locals) (hce : ce + rmy.cells ≤ rm.cells) (hsl : sl + rmy.slots ≤ rm.slots) (hcat : (rest.map fun v => v.category).sum ≤ 8) (d : decode cc pc = .ok (.invokespecial idx, 3))
    (hM : ∀ l d, AC l d lo y cy nLy none rmy (.ref (lo + b) :: as) h rv h') (hst : st = as.reverse ++ .ref (lo + b) :: rest) (k : AW G lo (ce + rmy.cells) (sl + rmy.slots) (pc + 3) lv (rv.toList ++ rest) h') : AW G lo ce sl pc lv st h := by
  obtain ⟨p, l, e, R, s, m, args, below, meth, c, Q, dd, nL⟩ := G
  obtain ⟨hx, hb, hr, hml, hown, hts, hlk, hK, hlo', rfl, rfl⟩ := C
  intro ls H locs hlv hH hS
  subst hst
  exact run_k (va_runI (As := as) (rest := rest) (Ts := gw) ⟨hx, hb, hml, hown, hts⟩ (hM l dd) ⟨mk_callB hts mi hl hfr hlo, hnm, hts _ hin⟩ ⟨blind, fun U hU hW => ⟨rfl, KK.warm hW hK, by rw [hU]; exact hH⟩⟩ rfl hn hlv.1 rfl (lv_room hcat) d ⟨hce, hsl⟩) hS (fun H1 locs1 hH1 hS1 => k ls H1 locs1 hlv hH1 hS1)
theorem a_callIN (C : CX G lo cc own ret rm nL0) (mi : MI y cy nLy none n) (hnm : y.name = "<init>") (hin : Cond.instanceMethod y ∈ gw) {host : String} (hl : Cond.methodLinkNest own idx y host ∈ bwN) (hn : as.length = n) (hfr : rmy.frames + 1 ≤ rm.frames) (hlo : 8 + (nLy + 11) + rmy.locals ≤ rm.locals) (hce : ce + rmy.cells ≤ rm.cells) (hsl : sl + rmy.slots ≤ rm.slots) (hcat : (rest.map fun v => v.category).sum ≤ 8) (d : decode cc pc = .ok (.invokespecial idx, 3))
    (hM : ∀ l d, AC l d lo y cy nLy none rmy (.ref (lo + b) :: as) h rv h') (hst : st = as.reverse ++ .ref (lo + b) :: rest) (k : AW G lo (ce + rmy.cells) (sl + rmy.slots) (pc + 3) lv (rv.toList ++ rest) h') : AW G lo ce sl pc lv st h := by
  obtain ⟨p, l, e, R, s, m, args, below, meth, c, Q, dd, nL⟩ := G
  obtain ⟨hx, hb, hr, hml, hown, hts, hlk, hK, hlo', rfl, rfl⟩ := C
  intro ls H locs hlv hH hS
  subst hst
  exact run_k (va_runIN (As := as) (rest := rest) (Ts := gw) (host := host) ⟨hx, hb, hml, hown, hts⟩ (hM l dd) ⟨⟨⟨rfl, rfl, hfr, hlo, gw_all hts mi.1, List.mem_cons_self⟩, hts _ mi.1, hts _ mi.2.1, mi.2.2.1, sig_len mi.2.2.2, va_Nw.use rfl (hK.2.1 _ hl)⟩, hnm, hts _ hin⟩ ⟨blind, fun U hU hW => ⟨rfl, KK.warm hW hK, by rw [hU]; exact hH⟩⟩ rfl hn hlv.1 rfl (lv_room hcat) d ⟨hce, hsl⟩) hS (fun H1 locs1 hH1 hS1 => k ls H1 locs1 hlv hH1 hS1)
/-- what a call by a name of another class asks of the tables: declared there, or with code there -/
def DU (x : MethodName) : Prop := Cond.declares x ∈ bwN ∨ (Cond.instanceMethod x ∈ gw ∧ ∃ b0 m0 r0, Cond.code x b0 m0 r0 ∈ gw)
theorem a_callU (C : CX G lo cc own ret rm nL0) {x : MethodName} {owner : String} (mi : MI y cy nLy rety n) (hin : Cond.instanceMethod y ∈ gw) {T : u_T} {N : Nat} {ty : Nat → FieldType} (cb : CB ci CN T N ty) (hse : Cond.selects CN x y ∈ gw) (hsm : Cond.sameMethod x.cls owner x.name x.desc ∈ gw) (hdu : DU ⟨owner, x.name, x.desc⟩) (how : owner ≠ "java/lang/invoke/MethodHandle" ∧ owner ≠ "java/lang/invoke/VarHandle") (hxd : x.desc = y.desc) (hl : Cond.methodLink own idx x ∈ gw) (hn : as.length = n) (hfr : rmy.frames + 1 ≤ rm.frames) (hlo : 8 + (nLy + 11) + rmy.locals ≤ rm.locals) (hce : ce + rmy.cells ≤ rm.cells) (hsl : sl + rmy.slots ≤ rm.slots) (hcat : (rest.map fun v => v.category).sum ≤ 8) (d : decode cc pc = .ok (.invokevirtual idx, 3)) (ho : gO h b = some (ci, fs))
    (hM : ∀ l d, AC l d lo y cy nLy rety rmy (.ref (lo + b) :: as) h rv h') (hst : st = as.reverse ++ .ref (lo + b) :: rest) (k : AW G lo (ce + rmy.cells) (sl + rmy.slots) (pc + 3) lv (rv.toList ++ rest) h') : AW G lo ce sl pc lv st h := by
  obtain ⟨p, l, e, R, s, m, args, below, meth, c, Q, dd, nL⟩ := G
  obtain ⟨hx, hb, hr, hml, hown, hts, hlk, hK, hlo', rfl, rfl⟩ := C
  intro ls H locs hlv hH hS
  subst hst
  have hdecl : va_Decl s ⟨owner, x.name, x.desc⟩ := hdu.elim (fun q => va_Decl.abs (hK.2.1 _ q)) (fun q => by obtain ⟨q1, b0, m0, r0, q2⟩ := q; exact va_Decl.of (hts _ q1) (hts _ q2))
  exact run_k (va_runU (As := as) (rest := rest) (Ts := gw) (x := x) (owner := owner) ⟨hx, hb, hml, hown, hts⟩ (hM l dd) ⟨⟨rfl, rfl, hfr, hlo, gw_all hts mi.1, List.mem_cons_self⟩, hts _ mi.1, hts _ mi.2.1, how, by rw [hxd]; exact sig_len mi.2.2.2, hts _ hl, hts _ hsm, hdecl, hts _ hse, hts _ hin⟩ ⟨blind, recv hK hH ho cb.1, fun U hU hW => ⟨rfl, KK.warm hW hK, by rw [hU]; exact hH⟩⟩ rfl hn hlv.1 rfl (lv_room hcat) d ⟨hce, hsl⟩) hS (fun H1 locs1 hH1 hS1 => k ls H1 locs1 hlv hH1 hS1)
theorem a_callSU (C : CX G lo cc own ret rm nL0) (mi : MI y cy nLy rety n) (hnm : y.name ≠ "<init>") (hin : Cond.instanceMethod y ∈ gw) {T : u_T} {N : Nat} {ty : Nat → FieldType} (cb : CB ci CN T N ty) (hsm : Cond.sameMethod y.cls y.cls y.name y.desc ∈ gw) (hsu : Cond.superclass own y.cls ∈ gw) (hl : Cond.methodLink own idx y ∈ gw) (hn : as.length = n) (hfr : rmy.frames + 1 ≤ rm.frames) (hlo : 8 + (nLy + 11) + rmy.locals ≤ rm.locals) (hce : ce + rmy.cells ≤ rm.cells) (hsl : sl + rmy.slots ≤ rm.slots) (hcat : (rest.map fun v => v.category).sum ≤ 8) (d : decode cc pc = .ok (.invokespecial idx, 3)) (ho : gO h b = some (ci, fs))
    (hM : ∀ l d, AC l d lo y cy nLy rety rmy (.ref (lo + b) :: as) h rv h') (hst : st = as.reverse ++ .ref (lo + b) :: rest) (k : AW G lo (ce + rmy.cells) (sl + rmy.slots) (pc + 3) lv (rv.toList ++ rest) h') : AW G lo ce sl pc lv st h := by
  obtain ⟨p, l, e, R, s, m, args, below, meth, c, Q, dd, nL⟩ := G
  obtain ⟨hx, hb, hr, hml, hown, hts, hlk, hK, hlo', rfl, rfl⟩ := C
  intro ls H locs hlv hH hS
  subst hst
  exact run_k (va_runSU (As := as) (rest := rest) (Ts := gw) (hK.1.1 ci _ cb.1).2 ⟨hx, hb, hml, hown, hts⟩ (hM l dd) ⟨⟨rfl, rfl, hfr, hlo, gw_all hts mi.1, List.mem_cons_self⟩, hts _ hl, hts _ hsm, hts _ hsu, hts _ hin, hts _ mi.2.1, hts _ mi.1, hnm, sig_len mi.2.2.2⟩ ⟨blind, recv hK hH ho cb.1, fun U hU hW => ⟨rfl, KK.warm hW hK, by rw [hU]; exact hH⟩⟩ rfl hn hlv.1 rfl (lv_room hcat) d ⟨hce, hsl⟩) hS (fun H1 locs1 hH1 hS1 => k ls H1 locs1 hlv hH1 hS1)
theorem a_objinit (C : CX G lo cc own ret rm nL0) {x : Nat} (hl : Cond.methodLink own idx objectInit ∈ gw) (hin : Cond.instanceMethod objectInit ∈ gw) (hco : Cond.code objectInit ⟨#[0xb1]⟩ 1 none ∈ gw) (hfr : 1 ≤ rm.frames) (hlc : (st.map fun v => v.category).sum + 12 ≤ rm.locals) (d : decode cc pc = .ok (.invokespecial idx, 3)) (k : AW G lo ce sl (pc + 3) lv st h) : AW G lo ce sl pc lv (.ref x :: st) h := by
  obtain ⟨p, l, e, R, s, m, args, below, meth, c, Q, dd, nL⟩ := G
  obtain ⟨hx, hb, hr, hml, hown, hts, hlk, hK, hlo', rfl, rfl⟩ := C
  exact fun ls H locs hlv hH hS => W.objInit hx hb hown (hts _ hl) (hts _ hin) (hts _ hco) rfl (by rw [hml]; exact hlv.1) rfl d hfr (by show 2 * 0 + _ + 12 ≤ _; omega) (k ls H locs hlv hH hS)
theorem a_mmax (C : CX G lo cc own ret rm nL0) {x y : Int32} (hl : Cond.methodLink own idx Lib.Math.max.name ∈ gw) (hst : Cond.static Lib.Math.max.name ∈ gw) (hini : Cond.initialized "java/lang/Math" ∈ gw) (hco : Cond.code Lib.Math.max.name Lib.Math.max.code 2 (some .int) ∈ gw) (hfr : 1 ≤ rm.frames) (hlc : (st.map fun v => v.category).sum + 13 ≤ rm.locals) (hce : ce ≤ rm.cells) (hsl : sl ≤ rm.slots) (d : decode cc pc = .ok (.invokestatic idx, 3)) (k : AW G lo ce sl (pc + 3) lv (.int (if x < y then y else x) :: st) h) : AW G lo ce sl pc lv (.int y :: .int x :: st) h := by
  obtain ⟨p, l, e, R, s, m, args, below, meth, c, Q, dd, nL⟩ := G
  obtain ⟨hx, hb, hr, hml, hown, hts, hlk, hK, hlo', rfl, rfl⟩ := C
  exact fun ls H locs hlv hH hS => va_mmax hx hb (by rw [hml]; exact hlv.1.symm) hown (hts _ hl) (hts _ hst) (hts _ hini) (hts _ hco) hfr hlc hce hsl d (k ls H locs hlv hH hS)
theorem a_iret (C : CX G lo cc own (some .int) rm nL0) {x : Int32} {mc ms : Nat} (q : RQ G lo (some (.int x)) h mc ms) (h1 : ce ≤ mc) (h2 : sl ≤ ms) (d : decode cc pc = .ok (.ireturn, 1)) : AW G lo ce sl pc lv [.int x] h := by
  obtain ⟨p, l, e, R, s, m, args, below, meth, c, Q, dd, nL⟩ := G
  obtain ⟨hx, hb, hr, hml, hown, hts, hlk, hK, hlo', rfl, rfl⟩ := C
  subst q
  exact fun ls H locs hlv hH hS => W.widen h1 h2 (W.iret hx hb hr (fun t ht hW => ⟨rfl, by rw [ht]; exact hH, hS.F ht⟩) hS.2.2 d hlk)
theorem a_zret (C : CX G lo cc own (some .boolean) rm nL0) {x : Int32} {mc ms : Nat} (q : RQ G lo (some (.int x)) h mc ms) (hx1 : x = 0 ∨ x = 1) (h1 : ce ≤ mc) (h2 : sl ≤ ms) (d : decode cc pc = .ok (.ireturn, 1)) : AW G lo ce sl pc lv [.int x] h := by
  obtain ⟨p, l, e, R, s, m, args, below, meth, c, Q, dd, nL⟩ := G
  obtain ⟨hx, hb, hr, hml, hown, hts, hlk, hK, hlo', rfl, rfl⟩ := C
  subst q
  exact fun ls H locs hlv hH hS => W.widen h1 h2 (W.zret hx hb hr (by rcases hx1 with rfl | rfl <;> rfl) (fun t ht hW => ⟨rfl, by rw [ht]; exact hH, hS.F ht⟩) hS.2.2 d hlk)
theorem a_lret (C : CX G lo cc own (some .long) rm nL0) {x : Int64} {mc ms : Nat} (q : RQ G lo (some (.long x)) h mc ms) (h1 : ce ≤ mc) (h2 : sl ≤ ms) (d : decode cc pc = .ok (.lreturn, 1)) : AW G lo ce sl pc lv [.long x] h := by
  obtain ⟨p, l, e, R, s, m, args, below, meth, c, Q, dd, nL⟩ := G
  obtain ⟨hx, hb, hr, hml, hown, hts, hlk, hK, hlo', rfl, rfl⟩ := C
  subst q
  exact fun ls H locs hlv hH hS => W.widen h1 h2 (W.lret hx hb hr (fun t ht hW => ⟨rfl, by rw [ht]; exact hH, hS.F ht⟩) hS.2.2 d hlk)
theorem a_vret (C : CX G lo cc own none rm nL0) {mc ms : Nat} (q : RQ G lo none h mc ms) (h1 : ce ≤ mc) (h2 : sl ≤ ms) (d : decode cc pc = .ok (.return_, 1)) : AW G lo ce sl pc lv [] h := by
  obtain ⟨p, l, e, R, s, m, args, below, meth, c, Q, dd, nL⟩ := G
  obtain ⟨hx, hb, hr, hml, hown, hts, hlk, hK, hlo', rfl, rfl⟩ := C
  subst q
  exact fun ls H locs hlv hH hS => W.widen h1 h2 (W.vret hx hb hr (fun t ht hW => ⟨rfl, by rw [ht]; exact hH, hS.F ht⟩) hS.2.2 d hlk)
theorem a_aret {E : String} (C : CX G lo cc own (some (.object E)) rm nL0) {r : Option Nat} {mc ms : Nat} (q : RQ G lo (some (va_rf (rl lo r))) h mc ms) (h1 : ce ≤ mc) (h2 : sl ≤ ms) (d : decode cc pc = .ok (.areturn, 1)) : AW G lo ce sl pc lv [va_rf (rl lo r)] h := by
  obtain ⟨p, l, e, R, s, m, args, below, meth, c, Q, dd, nL⟩ := G
  obtain ⟨hx, hb, hr, hml, hown, hts, hlk, hK, hlo', rfl, rfl⟩ := C
  subst q
  exact fun ls H locs hlv hH hS => W.widen h1 h2 (W.aret hx hb hr (Or.inl ⟨_, rfl⟩) (by cases r; exact Or.inl rfl; exact Or.inr ⟨_, rfl⟩) (fun t ht hW => ⟨rfl, by rw [ht]; exact hH, hS.F ht⟩) hS.2.2 d hlk)
end Calls2
