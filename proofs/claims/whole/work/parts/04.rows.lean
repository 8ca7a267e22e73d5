/-! THE BUNDLE: the machine, the method, the goal; AW: from here on, with these locals, this stack and this heap, the goal is reached -/
abbrev Gm : Type := Program × Launch × Env × Room × State × MethodId × Array Value × List Frame × Method × Code × (State → Prop) × DD × Nat
def AW (G : Gm) (lo ce sl pc : Nat) (lv : List (Nat × Value)) (st : List Value) (h : Hp) : Prop := match G with
  | (p, l, e, R, s, m, args, below, meth, c, Q, d, nL) => ∀ (ls : Array Slot) (H : Heap) (locs : List Loc), lv_has ls nL lv → HP d lo h H → va_S (fun q => lo ≤ q) s.heap H locs → W p l e R s m args below meth c H locs ce sl Q (F0 m pc ls st)
def CX (G : Gm) (lo : Nat) (cc : ByteArray) (own : String) (ret : Option FieldType) (rm : Room) (nL0 : Nat) : Prop := match G with
  | (p, l, e, R, s, m, args, below, meth, c, Q, d, nL) => p.tables.exec = Jvm.exec ∧ c.code = cc ∧ meth.sig.returnType = ret ∧ c.maxLocals = nL ∧ s.vm.findClass own = some m.cls ∧ (∀ w ∈ gw, w.before args s = true) ∧ meth.locks = false ∧ KK d s ∧ lo ≤ s.heap.size ∧ R = rm ∧ nL = nL0
def LD (G : Gm) : Launch × DD := match G with
  | (p, l, e, R, s, m, args, below, meth, c, Q, d, nL) => (l, d)
section Rows
variable {G : Gm} {lo ce sl pc : Nat} {lv : List (Nat × Value)} {st : List Value} {h : Hp} {cc : ByteArray} {own : String} {ret : Option FieldType} {rm : Room} {nL0 : Nat}
theorem a_iconst (C : CX G lo cc own ret rm nL0) {n : Int} {v : Int32} (d : decode cc pc = .ok (.iconst n, 1)) (hv : Int32.ofInt n = v) (k : AW G lo ce sl (pc + 1) lv (.int v :: st) h) : AW G lo ce sl pc lv (st) h := by
  obtain ⟨p, l, e, R, s, m, args, below, meth, c, Q, dd, nL⟩ := G
  obtain ⟨hx, hb, hr, hml, hown, hts, hlk, hK, hlo, rfl, rfl⟩ := C
  exact fun ls H locs hl hH hS => lv_iconst hx hb d hv (k ls H locs hl hH hS)
theorem a_bipush (C : CX G lo cc own ret rm nL0) {n : Int} {v : Int32} (d : decode cc pc = .ok (.bipush n, 2)) (hv : (Int8.ofInt n).toInt32 = v) (k : AW G lo ce sl (pc + 2) lv (.int v :: st) h) : AW G lo ce sl pc lv (st) h := by
  obtain ⟨p, l, e, R, s, m, args, below, meth, c, Q, dd, nL⟩ := G
  obtain ⟨hx, hb, hr, hml, hown, hts, hlk, hK, hlo, rfl, rfl⟩ := C
  exact fun ls H locs hl hH hS => lv_bipush hx hb d hv (k ls H locs hl hH hS)
theorem a_sipush (C : CX G lo cc own ret rm nL0) {n : Int} {v : Int32} (d : decode cc pc = .ok (.sipush n, 3)) (hv : (Int16.ofInt n).toInt32 = v) (k : AW G lo ce sl (pc + 3) lv (.int v :: st) h) : AW G lo ce sl pc lv (st) h := by
  obtain ⟨p, l, e, R, s, m, args, below, meth, c, Q, dd, nL⟩ := G
  obtain ⟨hx, hb, hr, hml, hown, hts, hlk, hK, hlo, rfl, rfl⟩ := C
  exact fun ls H locs hl hH hS => lv_sipush hx hb d hv (k ls H locs hl hH hS)
theorem a_lconst (C : CX G lo cc own ret rm nL0) {n : Fin 2} {v : Int64} (d : decode cc pc = .ok (.lconst n, 1)) (hv : Int64.ofNat (n : Nat) = v) (k : AW G lo ce sl (pc + 1) lv (.long v :: st) h) : AW G lo ce sl pc lv (st) h := by
  obtain ⟨p, l, e, R, s, m, args, below, meth, c, Q, dd, nL⟩ := G
  obtain ⟨hx, hb, hr, hml, hown, hts, hlk, hK, hlo, rfl, rfl⟩ := C
  exact fun ls H locs hl hH hS => lv_lconst hx hb d hv (k ls H locs hl hH hS)
theorem a_ldc (C : CX G lo cc own ret rm nL0) {i : Nat} {v : Int32} (w : Cond.constant own i v ∈ gw) (d : decode cc pc = .ok (.ldc i, 2)) (k : AW G lo ce sl (pc + 2) lv (.int v :: st) h) : AW G lo ce sl pc lv (st) h := by
  obtain ⟨p, l, e, R, s, m, args, below, meth, c, Q, dd, nL⟩ := G
  obtain ⟨hx, hb, hr, hml, hown, hts, hlk, hK, hlo, rfl, rfl⟩ := C
  exact fun ls H locs hl hH hS => lv_ldc hx hb hown (hts _ w) d (k ls H locs hl hH hS)
theorem a_ldc_w (C : CX G lo cc own ret rm nL0) {i : Nat} {v : Int32} (w : Cond.constant own i v ∈ gw) (d : decode cc pc = .ok (.ldc_w i, 3)) (k : AW G lo ce sl (pc + 3) lv (.int v :: st) h) : AW G lo ce sl pc lv (st) h := by
  obtain ⟨p, l, e, R, s, m, args, below, meth, c, Q, dd, nL⟩ := G
  obtain ⟨hx, hb, hr, hml, hown, hts, hlk, hK, hlo, rfl, rfl⟩ := C
  exact fun ls H locs hl hH hS => lv_ldcw hx hb hown (hts _ w) d (k ls H locs hl hH hS)
theorem a_ldc2 (C : CX G lo cc own ret rm nL0) {i : Nat} {v : Int64} (w : Cond.constantLong own i v ∈ gw) (d : decode cc pc = .ok (.ldc2_w i, 3)) (k : AW G lo ce sl (pc + 3) lv (.long v :: st) h) : AW G lo ce sl pc lv (st) h := by
  obtain ⟨p, l, e, R, s, m, args, below, meth, c, Q, dd, nL⟩ := G
  obtain ⟨hx, hb, hr, hml, hown, hts, hlk, hK, hlo, rfl, rfl⟩ := C
  exact fun ls H locs hl hH hS => lv_ldc2 hx hb hown (hts _ w) d (k ls H locs hl hH hS)
theorem a_null (C : CX G lo cc own ret rm nL0) (d : decode cc pc = .ok (.aconst_null, 1)) (k : AW G lo ce sl (pc + 1) lv (.null :: st) h) : AW G lo ce sl pc lv (st) h := by
  obtain ⟨p, l, e, R, s, m, args, below, meth, c, Q, dd, nL⟩ := G
  obtain ⟨hx, hb, hr, hml, hown, hts, hlk, hK, hlo, rfl, rfl⟩ := C
  exact fun ls H locs hl hH hS => lv_null hx hb d (k ls H locs hl hH hS)
theorem a_iload_n (C : CX G lo cc own ret rm nL0) {k0 : Fin 4} {i : Nat} {x : Int32} (d : decode cc pc = .ok (.iload_n k0, 1)) (hi : (k0 : Nat) = i) (j : Nat) (hj : lv[j]? = some (i, .int x)) (k : AW G lo ce sl (pc + 1) lv (.int x :: st) h) : AW G lo ce sl pc lv (st) h := by
  obtain ⟨p, l, e, R, s, m, args, below, meth, c, Q, dd, nL⟩ := G
  obtain ⟨hx, hb, hr, hml, hown, hts, hlk, hK, hlo, rfl, rfl⟩ := C
  exact fun ls H locs hl hH hS => lv_iload_n hx hb d hi (lv_at hl j hj) (k ls H locs hl hH hS)
theorem a_iload (C : CX G lo cc own ret rm nL0) {i : Nat} {x : Int32} (d : decode cc pc = .ok (.iload i, 2)) (j : Nat) (hj : lv[j]? = some (i, .int x)) (k : AW G lo ce sl (pc + 2) lv (.int x :: st) h) : AW G lo ce sl pc lv (st) h := by
  obtain ⟨p, l, e, R, s, m, args, below, meth, c, Q, dd, nL⟩ := G
  obtain ⟨hx, hb, hr, hml, hown, hts, hlk, hK, hlo, rfl, rfl⟩ := C
  exact fun ls H locs hl hH hS => lv_iload hx hb d (lv_at hl j hj) (k ls H locs hl hH hS)
theorem a_lload_n (C : CX G lo cc own ret rm nL0) {k0 : Fin 4} {i : Nat} {x : Int64} (d : decode cc pc = .ok (.lload_n k0, 1)) (hi : (k0 : Nat) = i) (j : Nat) (hj : lv[j]? = some (i, .long x)) (k : AW G lo ce sl (pc + 1) lv (.long x :: st) h) : AW G lo ce sl pc lv (st) h := by
  obtain ⟨p, l, e, R, s, m, args, below, meth, c, Q, dd, nL⟩ := G
  obtain ⟨hx, hb, hr, hml, hown, hts, hlk, hK, hlo, rfl, rfl⟩ := C
  exact fun ls H locs hl hH hS => lv_lload_n hx hb d hi (lv_at hl j hj) (k ls H locs hl hH hS)
theorem a_lload (C : CX G lo cc own ret rm nL0) {i : Nat} {x : Int64} (d : decode cc pc = .ok (.lload i, 2)) (j : Nat) (hj : lv[j]? = some (i, .long x)) (k : AW G lo ce sl (pc + 2) lv (.long x :: st) h) : AW G lo ce sl pc lv (st) h := by
  obtain ⟨p, l, e, R, s, m, args, below, meth, c, Q, dd, nL⟩ := G
  obtain ⟨hx, hb, hr, hml, hown, hts, hlk, hK, hlo, rfl, rfl⟩ := C
  exact fun ls H locs hl hH hS => lv_lload hx hb d (lv_at hl j hj) (k ls H locs hl hH hS)
theorem a_aload_n (C : CX G lo cc own ret rm nL0) {k0 : Fin 4} {i : Nat} {x : Nat} (d : decode cc pc = .ok (.aload_n k0, 1)) (hi : (k0 : Nat) = i) (j : Nat) (hj : lv[j]? = some (i, .ref x)) (k : AW G lo ce sl (pc + 1) lv (.ref x :: st) h) : AW G lo ce sl pc lv (st) h := by
  obtain ⟨p, l, e, R, s, m, args, below, meth, c, Q, dd, nL⟩ := G
  obtain ⟨hx, hb, hr, hml, hown, hts, hlk, hK, hlo, rfl, rfl⟩ := C
  exact fun ls H locs hl hH hS => lv_aload_n hx hb d hi (lv_at hl j hj) (k ls H locs hl hH hS)
theorem a_aload (C : CX G lo cc own ret rm nL0) {i : Nat} {x : Nat} (d : decode cc pc = .ok (.aload i, 2)) (j : Nat) (hj : lv[j]? = some (i, .ref x)) (k : AW G lo ce sl (pc + 2) lv (.ref x :: st) h) : AW G lo ce sl pc lv (st) h := by
  obtain ⟨p, l, e, R, s, m, args, below, meth, c, Q, dd, nL⟩ := G
  obtain ⟨hx, hb, hr, hml, hown, hts, hlk, hK, hlo, rfl, rfl⟩ := C
  exact fun ls H locs hl hH hS => lv_aload hx hb d (lv_at hl j hj) (k ls H locs hl hH hS)
theorem a_aload_nN (C : CX G lo cc own ret rm nL0) {k0 : Fin 4} {i : Nat} (d : decode cc pc = .ok (.aload_n k0, 1)) (hi : (k0 : Nat) = i) (j : Nat) (hj : lv[j]? = some (i, .null)) (k : AW G lo ce sl (pc + 1) lv (.null :: st) h) : AW G lo ce sl pc lv (st) h := by
  obtain ⟨p, l, e, R, s, m, args, below, meth, c, Q, dd, nL⟩ := G
  obtain ⟨hx, hb, hr, hml, hown, hts, hlk, hK, hlo, rfl, rfl⟩ := C
  exact fun ls H locs hl hH hS => lv_aload_nN hx hb d hi (lv_at hl j hj) (k ls H locs hl hH hS)
theorem a_aloadN (C : CX G lo cc own ret rm nL0) {i : Nat} (d : decode cc pc = .ok (.aload i, 2)) (j : Nat) (hj : lv[j]? = some (i, .null)) (k : AW G lo ce sl (pc + 2) lv (.null :: st) h) : AW G lo ce sl pc lv (st) h := by
  obtain ⟨p, l, e, R, s, m, args, below, meth, c, Q, dd, nL⟩ := G
  obtain ⟨hx, hb, hr, hml, hown, hts, hlk, hK, hlo, rfl, rfl⟩ := C
  exact fun ls H locs hl hH hS => lv_aloadN hx hb d (lv_at hl j hj) (k ls H locs hl hH hS)
theorem a_istore_n (C : CX G lo cc own ret rm nL0) {k0 : Fin 4} {i : Nat} {x : Int32} {lv2 : List (Nat × Value)} (d : decode cc pc = .ok (.istore_n k0, 1)) (hi : (k0 : Nat) = i) (hn : i < nL0) (hq : (i, Value.int x) :: lv.filter (fun q => !(q.1 == i) && !(q.1 + 1 == i && q.2.category == 2)) = lv2) (k : AW G lo ce sl (pc + 1) lv2 (st) h) : AW G lo ce sl pc lv (.int x :: st) h := by
  obtain ⟨p, l, e, R, s, m, args, below, meth, c, Q, dd, nL⟩ := G
  obtain ⟨hx, hb, hr, hml, hown, hts, hlk, hK, hlo, rfl, rfl⟩ := C
  exact fun ls H locs hl hH hS => lv_istore_n hx hb d hi hl hn hq (fun ls hl => k ls H locs hl hH hS)
theorem a_istore (C : CX G lo cc own ret rm nL0) {i : Nat} {x : Int32} {lv2 : List (Nat × Value)} (d : decode cc pc = .ok (.istore i, 2)) (hn : i < nL0) (hq : (i, Value.int x) :: lv.filter (fun q => !(q.1 == i) && !(q.1 + 1 == i && q.2.category == 2)) = lv2) (k : AW G lo ce sl (pc + 2) lv2 (st) h) : AW G lo ce sl pc lv (.int x :: st) h := by
  obtain ⟨p, l, e, R, s, m, args, below, meth, c, Q, dd, nL⟩ := G
  obtain ⟨hx, hb, hr, hml, hown, hts, hlk, hK, hlo, rfl, rfl⟩ := C
  exact fun ls H locs hl hH hS => lv_istore hx hb d hl hn hq (fun ls hl => k ls H locs hl hH hS)
theorem a_lstore_n (C : CX G lo cc own ret rm nL0) {k0 : Fin 4} {i : Nat} {x : Int64} {lv2 : List (Nat × Value)} (d : decode cc pc = .ok (.lstore_n k0, 1)) (hi : (k0 : Nat) = i) (hn : i + 1 < nL0) (hq : (i, Value.long x) :: lv.filter (fun q => !(q.1 == i) && (!(q.1 == i + 1) && !(q.1 + 1 == i && q.2.category == 2))) = lv2) (k : AW G lo ce sl (pc + 1) lv2 (st) h) : AW G lo ce sl pc lv (.long x :: st) h := by
  obtain ⟨p, l, e, R, s, m, args, below, meth, c, Q, dd, nL⟩ := G
  obtain ⟨hx, hb, hr, hml, hown, hts, hlk, hK, hlo, rfl, rfl⟩ := C
  exact fun ls H locs hl hH hS => lv_lstore_n hx hb d hi hl hn hq (fun ls hl => k ls H locs hl hH hS)
theorem a_lstore (C : CX G lo cc own ret rm nL0) {i : Nat} {x : Int64} {lv2 : List (Nat × Value)} (d : decode cc pc = .ok (.lstore i, 2)) (hn : i + 1 < nL0) (hq : (i, Value.long x) :: lv.filter (fun q => !(q.1 == i) && (!(q.1 == i + 1) && !(q.1 + 1 == i && q.2.category == 2))) = lv2) (k : AW G lo ce sl (pc + 2) lv2 (st) h) : AW G lo ce sl pc lv (.long x :: st) h := by
  obtain ⟨p, l, e, R, s, m, args, below, meth, c, Q, dd, nL⟩ := G
  obtain ⟨hx, hb, hr, hml, hown, hts, hlk, hK, hlo, rfl, rfl⟩ := C
  exact fun ls H locs hl hH hS => lv_lstore hx hb d hl hn hq (fun ls hl => k ls H locs hl hH hS)
theorem a_astore_n (C : CX G lo cc own ret rm nL0) {k0 : Fin 4} {i : Nat} {x : Nat} {lv2 : List (Nat × Value)} (d : decode cc pc = .ok (.astore_n k0, 1)) (hi : (k0 : Nat) = i) (hn : i < nL0) (hq : (i, Value.ref x) :: lv.filter (fun q => !(q.1 == i) && !(q.1 + 1 == i && q.2.category == 2)) = lv2) (k : AW G lo ce sl (pc + 1) lv2 (st) h) : AW G lo ce sl pc lv (.ref x :: st) h := by
  obtain ⟨p, l, e, R, s, m, args, below, meth, c, Q, dd, nL⟩ := G
  obtain ⟨hx, hb, hr, hml, hown, hts, hlk, hK, hlo, rfl, rfl⟩ := C
  exact fun ls H locs hl hH hS => lv_astore_n hx hb d hi hl hn hq (fun ls hl => k ls H locs hl hH hS)
theorem a_astore (C : CX G lo cc own ret rm nL0) {i : Nat} {x : Nat} {lv2 : List (Nat × Value)} (d : decode cc pc = .ok (.astore i, 2)) (hn : i < nL0) (hq : (i, Value.ref x) :: lv.filter (fun q => !(q.1 == i) && !(q.1 + 1 == i && q.2.category == 2)) = lv2) (k : AW G lo ce sl (pc + 2) lv2 (st) h) : AW G lo ce sl pc lv (.ref x :: st) h := by
  obtain ⟨p, l, e, R, s, m, args, below, meth, c, Q, dd, nL⟩ := G
  obtain ⟨hx, hb, hr, hml, hown, hts, hlk, hK, hlo, rfl, rfl⟩ := C
  exact fun ls H locs hl hH hS => lv_astore hx hb d hl hn hq (fun ls hl => k ls H locs hl hH hS)
theorem a_astore_nN (C : CX G lo cc own ret rm nL0) {k0 : Fin 4} {i : Nat} {lv2 : List (Nat × Value)} (d : decode cc pc = .ok (.astore_n k0, 1)) (hi : (k0 : Nat) = i) (hn : i < nL0) (hq : (i, Value.null) :: lv.filter (fun q => !(q.1 == i) && !(q.1 + 1 == i && q.2.category == 2)) = lv2) (k : AW G lo ce sl (pc + 1) lv2 (st) h) : AW G lo ce sl pc lv (.null :: st) h := by
  obtain ⟨p, l, e, R, s, m, args, below, meth, c, Q, dd, nL⟩ := G
  obtain ⟨hx, hb, hr, hml, hown, hts, hlk, hK, hlo, rfl, rfl⟩ := C
  exact fun ls H locs hl hH hS => lv_astore_nN hx hb d hi hl hn hq (fun ls hl => k ls H locs hl hH hS)
theorem a_astoreN (C : CX G lo cc own ret rm nL0) {i : Nat} {lv2 : List (Nat × Value)} (d : decode cc pc = .ok (.astore i, 2)) (hn : i < nL0) (hq : (i, Value.null) :: lv.filter (fun q => !(q.1 == i) && !(q.1 + 1 == i && q.2.category == 2)) = lv2) (k : AW G lo ce sl (pc + 2) lv2 (st) h) : AW G lo ce sl pc lv (.null :: st) h := by
  obtain ⟨p, l, e, R, s, m, args, below, meth, c, Q, dd, nL⟩ := G
  obtain ⟨hx, hb, hr, hml, hown, hts, hlk, hK, hlo, rfl, rfl⟩ := C
  exact fun ls H locs hl hH hS => lv_astoreN hx hb d hl hn hq (fun ls hl => k ls H locs hl hH hS)
theorem a_iinc (C : CX G lo cc own ret rm nL0) {i : Nat} {n : Int} {x v : Int32} {lv2 : List (Nat × Value)} (d : decode cc pc = .ok (.iinc i n, 3)) (j : Nat) (hj : lv[j]? = some (i, .int x)) (hv : x + Int32.ofInt n = v) (hn : i < nL0) (hq : (i, Value.int v) :: lv.filter (fun q => !(q.1 == i) && !(q.1 + 1 == i && q.2.category == 2)) = lv2) (k : AW G lo ce sl (pc + 3) lv2 (st) h) : AW G lo ce sl pc lv (st) h := by
  obtain ⟨p, l, e, R, s, m, args, below, meth, c, Q, dd, nL⟩ := G
  obtain ⟨hx, hb, hr, hml, hown, hts, hlk, hK, hlo, rfl, rfl⟩ := C
  exact fun ls H locs hl hH hS => lv_iinc hx hb d hl hj hv hn hq (fun ls hl => k ls H locs hl hH hS)
theorem a_iadd (C : CX G lo cc own ret rm nL0) {x y : Int32} (d : decode cc pc = .ok (.iadd, 1)) (k : AW G lo ce sl (pc + 1) lv (.int (x + y) :: st) h) : AW G lo ce sl pc lv (.int y :: .int x :: st) h := by
  obtain ⟨p, l, e, R, s, m, args, below, meth, c, Q, dd, nL⟩ := G
  obtain ⟨hx, hb, hr, hml, hown, hts, hlk, hK, hlo, rfl, rfl⟩ := C
  exact fun ls H locs hl hH hS => lv_iadd hx hb d (k ls H locs hl hH hS)
theorem a_isub (C : CX G lo cc own ret rm nL0) {x y : Int32} (d : decode cc pc = .ok (.isub, 1)) (k : AW G lo ce sl (pc + 1) lv (.int (x - y) :: st) h) : AW G lo ce sl pc lv (.int y :: .int x :: st) h := by
  obtain ⟨p, l, e, R, s, m, args, below, meth, c, Q, dd, nL⟩ := G
  obtain ⟨hx, hb, hr, hml, hown, hts, hlk, hK, hlo, rfl, rfl⟩ := C
  exact fun ls H locs hl hH hS => lv_isub hx hb d (k ls H locs hl hH hS)
theorem a_imul (C : CX G lo cc own ret rm nL0) {x y : Int32} (d : decode cc pc = .ok (.imul, 1)) (k : AW G lo ce sl (pc + 1) lv (.int (x * y) :: st) h) : AW G lo ce sl pc lv (.int y :: .int x :: st) h := by
  obtain ⟨p, l, e, R, s, m, args, below, meth, c, Q, dd, nL⟩ := G
  obtain ⟨hx, hb, hr, hml, hown, hts, hlk, hK, hlo, rfl, rfl⟩ := C
  exact fun ls H locs hl hH hS => lv_imul hx hb d (k ls H locs hl hH hS)
theorem a_iand (C : CX G lo cc own ret rm nL0) {x y : Int32} (d : decode cc pc = .ok (.iand, 1)) (k : AW G lo ce sl (pc + 1) lv (.int (x &&& y) :: st) h) : AW G lo ce sl pc lv (.int y :: .int x :: st) h := by
  obtain ⟨p, l, e, R, s, m, args, below, meth, c, Q, dd, nL⟩ := G
  obtain ⟨hx, hb, hr, hml, hown, hts, hlk, hK, hlo, rfl, rfl⟩ := C
  exact fun ls H locs hl hH hS => lv_iand hx hb d (k ls H locs hl hH hS)
theorem a_ior (C : CX G lo cc own ret rm nL0) {x y : Int32} (d : decode cc pc = .ok (.ior, 1)) (k : AW G lo ce sl (pc + 1) lv (.int (x ||| y) :: st) h) : AW G lo ce sl pc lv (.int y :: .int x :: st) h := by
  obtain ⟨p, l, e, R, s, m, args, below, meth, c, Q, dd, nL⟩ := G
  obtain ⟨hx, hb, hr, hml, hown, hts, hlk, hK, hlo, rfl, rfl⟩ := C
  exact fun ls H locs hl hH hS => lv_ior hx hb d (k ls H locs hl hH hS)
theorem a_ixor (C : CX G lo cc own ret rm nL0) {x y : Int32} (d : decode cc pc = .ok (.ixor, 1)) (k : AW G lo ce sl (pc + 1) lv (.int (x ^^^ y) :: st) h) : AW G lo ce sl pc lv (.int y :: .int x :: st) h := by
  obtain ⟨p, l, e, R, s, m, args, below, meth, c, Q, dd, nL⟩ := G
  obtain ⟨hx, hb, hr, hml, hown, hts, hlk, hK, hlo, rfl, rfl⟩ := C
  exact fun ls H locs hl hH hS => lv_ixor hx hb d (k ls H locs hl hH hS)
theorem a_ishl (C : CX G lo cc own ret rm nL0) {x y : Int32} (d : decode cc pc = .ok (.ishl, 1)) (k : AW G lo ce sl (pc + 1) lv (.int (x <<< (y &&& 31)) :: st) h) : AW G lo ce sl pc lv (.int y :: .int x :: st) h := by
  obtain ⟨p, l, e, R, s, m, args, below, meth, c, Q, dd, nL⟩ := G
  obtain ⟨hx, hb, hr, hml, hown, hts, hlk, hK, hlo, rfl, rfl⟩ := C
  exact fun ls H locs hl hH hS => lv_ishl hx hb d (k ls H locs hl hH hS)
theorem a_ishr (C : CX G lo cc own ret rm nL0) {x y : Int32} (d : decode cc pc = .ok (.ishr, 1)) (k : AW G lo ce sl (pc + 1) lv (.int (x >>> (y &&& 31)) :: st) h) : AW G lo ce sl pc lv (.int y :: .int x :: st) h := by
  obtain ⟨p, l, e, R, s, m, args, below, meth, c, Q, dd, nL⟩ := G
  obtain ⟨hx, hb, hr, hml, hown, hts, hlk, hK, hlo, rfl, rfl⟩ := C
  exact fun ls H locs hl hH hS => lv_ishr hx hb d (k ls H locs hl hH hS)
theorem a_iushr (C : CX G lo cc own ret rm nL0) {x y : Int32} (d : decode cc pc = .ok (.iushr, 1)) (k : AW G lo ce sl (pc + 1) lv (.int ((x.toUInt32 >>> (y.toUInt32 &&& Int32.toUInt32 31)).toInt32) :: st) h) : AW G lo ce sl pc lv (.int y :: .int x :: st) h := by
  obtain ⟨p, l, e, R, s, m, args, below, meth, c, Q, dd, nL⟩ := G
  obtain ⟨hx, hb, hr, hml, hown, hts, hlk, hK, hlo, rfl, rfl⟩ := C
  exact fun ls H locs hl hH hS => lv_iushr hx hb d rfl (k ls H locs hl hH hS)
theorem a_idiv (C : CX G lo cc own ret rm nL0) {x y : Int32} (d : decode cc pc = .ok (.idiv, 1)) (hz : ¬ y = 0) (k : AW G lo ce sl (pc + 1) lv (.int (x / y) :: st) h) : AW G lo ce sl pc lv (.int y :: .int x :: st) h := by
  obtain ⟨p, l, e, R, s, m, args, below, meth, c, Q, dd, nL⟩ := G
  obtain ⟨hx, hb, hr, hml, hown, hts, hlk, hK, hlo, rfl, rfl⟩ := C
  exact fun ls H locs hl hH hS => lv_idiv hx hb d hz (k ls H locs hl hH hS)
theorem a_irem (C : CX G lo cc own ret rm nL0) {x y : Int32} (d : decode cc pc = .ok (.irem, 1)) (hz : ¬ y = 0) (k : AW G lo ce sl (pc + 1) lv (.int (x - x / y * y) :: st) h) : AW G lo ce sl pc lv (.int y :: .int x :: st) h := by
  obtain ⟨p, l, e, R, s, m, args, below, meth, c, Q, dd, nL⟩ := G
  obtain ⟨hx, hb, hr, hml, hown, hts, hlk, hK, hlo, rfl, rfl⟩ := C
  exact fun ls H locs hl hH hS => lv_irem hx hb d hz (k ls H locs hl hH hS)
theorem a_ineg (C : CX G lo cc own ret rm nL0) {x : Int32} (d : decode cc pc = .ok (.ineg, 1)) (k : AW G lo ce sl (pc + 1) lv (.int (-x) :: st) h) : AW G lo ce sl pc lv (.int x :: st) h := by
  obtain ⟨p, l, e, R, s, m, args, below, meth, c, Q, dd, nL⟩ := G
  obtain ⟨hx, hb, hr, hml, hown, hts, hlk, hK, hlo, rfl, rfl⟩ := C
  exact fun ls H locs hl hH hS => lv_ineg hx hb d (k ls H locs hl hH hS)
theorem a_ladd (C : CX G lo cc own ret rm nL0) {x y : Int64} (d : decode cc pc = .ok (.ladd, 1)) (k : AW G lo ce sl (pc + 1) lv (.long (x + y) :: st) h) : AW G lo ce sl pc lv (.long y :: .long x :: st) h := by
  obtain ⟨p, l, e, R, s, m, args, below, meth, c, Q, dd, nL⟩ := G
  obtain ⟨hx, hb, hr, hml, hown, hts, hlk, hK, hlo, rfl, rfl⟩ := C
  exact fun ls H locs hl hH hS => lv_ladd hx hb d (k ls H locs hl hH hS)
theorem a_lsub (C : CX G lo cc own ret rm nL0) {x y : Int64} (d : decode cc pc = .ok (.lsub, 1)) (k : AW G lo ce sl (pc + 1) lv (.long (x - y) :: st) h) : AW G lo ce sl pc lv (.long y :: .long x :: st) h := by
  obtain ⟨p, l, e, R, s, m, args, below, meth, c, Q, dd, nL⟩ := G
  obtain ⟨hx, hb, hr, hml, hown, hts, hlk, hK, hlo, rfl, rfl⟩ := C
  exact fun ls H locs hl hH hS => lv_lsub hx hb d (k ls H locs hl hH hS)
theorem a_lmul (C : CX G lo cc own ret rm nL0) {x y : Int64} (d : decode cc pc = .ok (.lmul, 1)) (k : AW G lo ce sl (pc + 1) lv (.long (x * y) :: st) h) : AW G lo ce sl pc lv (.long y :: .long x :: st) h := by
  obtain ⟨p, l, e, R, s, m, args, below, meth, c, Q, dd, nL⟩ := G
  obtain ⟨hx, hb, hr, hml, hown, hts, hlk, hK, hlo, rfl, rfl⟩ := C
  exact fun ls H locs hl hH hS => lv_lmul hx hb d (k ls H locs hl hH hS)
theorem a_ldiv (C : CX G lo cc own ret rm nL0) {x y : Int64} (d : decode cc pc = .ok (.ldiv, 1)) (hz : ¬ y = 0) (k : AW G lo ce sl (pc + 1) lv (.long (x / y) :: st) h) : AW G lo ce sl pc lv (.long y :: .long x :: st) h := by
  obtain ⟨p, l, e, R, s, m, args, below, meth, c, Q, dd, nL⟩ := G
  obtain ⟨hx, hb, hr, hml, hown, hts, hlk, hK, hlo, rfl, rfl⟩ := C
  exact fun ls H locs hl hH hS => lv_ldiv hx hb d hz (k ls H locs hl hH hS)
theorem a_lrem (C : CX G lo cc own ret rm nL0) {x y : Int64} (d : decode cc pc = .ok (.lrem, 1)) (hz : ¬ y = 0) (k : AW G lo ce sl (pc + 1) lv (.long (x - x / y * y) :: st) h) : AW G lo ce sl pc lv (.long y :: .long x :: st) h := by
  obtain ⟨p, l, e, R, s, m, args, below, meth, c, Q, dd, nL⟩ := G
  obtain ⟨hx, hb, hr, hml, hown, hts, hlk, hK, hlo, rfl, rfl⟩ := C
  exact fun ls H locs hl hH hS => lv_lrem hx hb d hz (k ls H locs hl hH hS)
theorem a_lcmp (C : CX G lo cc own ret rm nL0) {x y : Int64} (d : decode cc pc = .ok (.lcmp, 1)) (k : AW G lo ce sl (pc + 1) lv (.int (lg_cmp x y) :: st) h) : AW G lo ce sl pc lv (.long y :: .long x :: st) h := by
  obtain ⟨p, l, e, R, s, m, args, below, meth, c, Q, dd, nL⟩ := G
  obtain ⟨hx, hb, hr, hml, hown, hts, hlk, hK, hlo, rfl, rfl⟩ := C
  exact fun ls H locs hl hH hS => W.lcmp hx hb d (k ls H locs hl hH hS)
theorem a_i2l (C : CX G lo cc own ret rm nL0) {x : Int32} (d : decode cc pc = .ok (.i2l, 1)) (k : AW G lo ce sl (pc + 1) lv (.long x.toInt64 :: st) h) : AW G lo ce sl pc lv (.int x :: st) h := by
  obtain ⟨p, l, e, R, s, m, args, below, meth, c, Q, dd, nL⟩ := G
  obtain ⟨hx, hb, hr, hml, hown, hts, hlk, hK, hlo, rfl, rfl⟩ := C
  exact fun ls H locs hl hH hS => lv_i2l hx hb d rfl (k ls H locs hl hH hS)
theorem a_l2i (C : CX G lo cc own ret rm nL0) {x : Int64} (d : decode cc pc = .ok (.l2i, 1)) (k : AW G lo ce sl (pc + 1) lv (.int x.toInt32 :: st) h) : AW G lo ce sl pc lv (.long x :: st) h := by
  obtain ⟨p, l, e, R, s, m, args, below, meth, c, Q, dd, nL⟩ := G
  obtain ⟨hx, hb, hr, hml, hown, hts, hlk, hK, hlo, rfl, rfl⟩ := C
  exact fun ls H locs hl hH hS => lv_l2i hx hb d rfl (k ls H locs hl hH hS)
theorem a_i2b (C : CX G lo cc own ret rm nL0) {x : Int32} (d : decode cc pc = .ok (.i2b, 1)) (k : AW G lo ce sl (pc + 1) lv (.int x.toInt8.toInt32 :: st) h) : AW G lo ce sl pc lv (.int x :: st) h := by
  obtain ⟨p, l, e, R, s, m, args, below, meth, c, Q, dd, nL⟩ := G
  obtain ⟨hx, hb, hr, hml, hown, hts, hlk, hK, hlo, rfl, rfl⟩ := C
  exact fun ls H locs hl hH hS => lv_i2b hx hb d rfl (k ls H locs hl hH hS)
theorem a_i2s (C : CX G lo cc own ret rm nL0) {x : Int32} (d : decode cc pc = .ok (.i2s, 1)) (k : AW G lo ce sl (pc + 1) lv (.int x.toInt16.toInt32 :: st) h) : AW G lo ce sl pc lv (.int x :: st) h := by
  obtain ⟨p, l, e, R, s, m, args, below, meth, c, Q, dd, nL⟩ := G
  obtain ⟨hx, hb, hr, hml, hown, hts, hlk, hK, hlo, rfl, rfl⟩ := C
  exact fun ls H locs hl hH hS => lv_i2s hx hb d rfl (k ls H locs hl hH hS)
theorem a_dup (C : CX G lo cc own ret rm nL0) {v : Value} (d : decode cc pc = .ok (.dup, 1)) (hv : v.category = 1) (k : AW G lo ce sl (pc + 1) lv (v :: v :: st) h) : AW G lo ce sl pc lv (v :: st) h := by
  obtain ⟨p, l, e, R, s, m, args, below, meth, c, Q, dd, nL⟩ := G
  obtain ⟨hx, hb, hr, hml, hown, hts, hlk, hK, hlo, rfl, rfl⟩ := C
  exact fun ls H locs hl hH hS => lv_dup hx hb d hv (k ls H locs hl hH hS)
theorem a_dup2 (C : CX G lo cc own ret rm nL0) {v w : Value} (d : decode cc pc = .ok (.dup2, 1)) (hv : v.category = 1) (hw : w.category = 1) (k : AW G lo ce sl (pc + 1) lv (v :: w :: v :: w :: st) h) : AW G lo ce sl pc lv (v :: w :: st) h := by
  obtain ⟨p, l, e, R, s, m, args, below, meth, c, Q, dd, nL⟩ := G
  obtain ⟨hx, hb, hr, hml, hown, hts, hlk, hK, hlo, rfl, rfl⟩ := C
  exact fun ls H locs hl hH hS => lv_dup2_11 hx hb d hv hw (k ls H locs hl hH hS)
theorem a_pop (C : CX G lo cc own ret rm nL0) {v : Value} (d : decode cc pc = .ok (.pop, 1)) (hv : v.category = 1) (k : AW G lo ce sl (pc + 1) lv (st) h) : AW G lo ce sl pc lv (v :: st) h := by
  obtain ⟨p, l, e, R, s, m, args, below, meth, c, Q, dd, nL⟩ := G
  obtain ⟨hx, hb, hr, hml, hown, hts, hlk, hK, hlo, rfl, rfl⟩ := C
  exact fun ls H locs hl hH hS => lv_pop hx hb d hv (k ls H locs hl hH hS)
theorem a_goto (C : CX G lo cc own ret rm nL0) {off : Int} {tgt : Nat} (d : decode cc pc = .ok (.goto off, 3)) (ht : (pc : Int) + off = (tgt : Int)) (k : AW G lo ce sl (tgt) lv (st) h) : AW G lo ce sl pc lv (st) h := by
  obtain ⟨p, l, e, R, s, m, args, below, meth, c, Q, dd, nL⟩ := G
  obtain ⟨hx, hb, hr, hml, hown, hts, hlk, hK, hlo, rfl, rfl⟩ := C
  exact fun ls H locs hl hH hS => lv_goto hx hb d ht (k ls H locs hl hH hS)
theorem a_icmp_eq (C : CX G lo cc own ret rm nL0) {x y : Int32} {off : Int} {tgt : Nat} (d : decode cc pc = .ok (.if_icmp .eq off, 3)) (ht : (pc : Int) + off = (tgt : Int)) (kt : x = y → AW G lo ce sl tgt lv st h) (kf : ¬ x = y → AW G lo ce sl (pc + 3) lv st h) : AW G lo ce sl pc lv (.int y :: .int x :: st) h := by
  obtain ⟨p, l, e, R, s, m, args, below, meth, c, Q, dd, nL⟩ := G
  obtain ⟨hx, hb, hr, hml, hown, hts, hlk, hK, hlo, rfl, rfl⟩ := C
  exact fun ls H locs hl hH hS => lv_icmp_eq hx hb d ht (fun q => kt q ls H locs hl hH hS) (fun q => kf q ls H locs hl hH hS)
theorem a_if_eq (C : CX G lo cc own ret rm nL0) {x : Int32} {off : Int} {tgt : Nat} (d : decode cc pc = .ok (.ifCond .eq off, 3)) (ht : (pc : Int) + off = (tgt : Int)) (kt : x = 0 → AW G lo ce sl tgt lv st h) (kf : ¬ x = 0 → AW G lo ce sl (pc + 3) lv st h) : AW G lo ce sl pc lv (.int x :: st) h := by
  obtain ⟨p, l, e, R, s, m, args, below, meth, c, Q, dd, nL⟩ := G
  obtain ⟨hx, hb, hr, hml, hown, hts, hlk, hK, hlo, rfl, rfl⟩ := C
  exact fun ls H locs hl hH hS => lv_if_eq hx hb d ht (fun q => kt q ls H locs hl hH hS) (fun q => kf q ls H locs hl hH hS)
theorem a_icmp_ne (C : CX G lo cc own ret rm nL0) {x y : Int32} {off : Int} {tgt : Nat} (d : decode cc pc = .ok (.if_icmp .ne off, 3)) (ht : (pc : Int) + off = (tgt : Int)) (kt : ¬ x = y → AW G lo ce sl tgt lv st h) (kf : x = y → AW G lo ce sl (pc + 3) lv st h) : AW G lo ce sl pc lv (.int y :: .int x :: st) h := by
  obtain ⟨p, l, e, R, s, m, args, below, meth, c, Q, dd, nL⟩ := G
  obtain ⟨hx, hb, hr, hml, hown, hts, hlk, hK, hlo, rfl, rfl⟩ := C
  exact fun ls H locs hl hH hS => lv_icmp_ne hx hb d ht (fun q => kt q ls H locs hl hH hS) (fun q => kf q ls H locs hl hH hS)
theorem a_if_ne (C : CX G lo cc own ret rm nL0) {x : Int32} {off : Int} {tgt : Nat} (d : decode cc pc = .ok (.ifCond .ne off, 3)) (ht : (pc : Int) + off = (tgt : Int)) (kt : ¬ x = 0 → AW G lo ce sl tgt lv st h) (kf : x = 0 → AW G lo ce sl (pc + 3) lv st h) : AW G lo ce sl pc lv (.int x :: st) h := by
  obtain ⟨p, l, e, R, s, m, args, below, meth, c, Q, dd, nL⟩ := G
  obtain ⟨hx, hb, hr, hml, hown, hts, hlk, hK, hlo, rfl, rfl⟩ := C
  exact fun ls H locs hl hH hS => lv_if_ne hx hb d ht (fun q => kt q ls H locs hl hH hS) (fun q => kf q ls H locs hl hH hS)
theorem a_icmp_lt (C : CX G lo cc own ret rm nL0) {x y : Int32} {off : Int} {tgt : Nat} (d : decode cc pc = .ok (.if_icmp .lt off, 3)) (ht : (pc : Int) + off = (tgt : Int)) (kt : x < y → AW G lo ce sl tgt lv st h) (kf : ¬ x < y → AW G lo ce sl (pc + 3) lv st h) : AW G lo ce sl pc lv (.int y :: .int x :: st) h := by
  obtain ⟨p, l, e, R, s, m, args, below, meth, c, Q, dd, nL⟩ := G
  obtain ⟨hx, hb, hr, hml, hown, hts, hlk, hK, hlo, rfl, rfl⟩ := C
  exact fun ls H locs hl hH hS => lv_icmp_lt hx hb d ht (fun q => kt q ls H locs hl hH hS) (fun q => kf q ls H locs hl hH hS)
theorem a_if_lt (C : CX G lo cc own ret rm nL0) {x : Int32} {off : Int} {tgt : Nat} (d : decode cc pc = .ok (.ifCond .lt off, 3)) (ht : (pc : Int) + off = (tgt : Int)) (kt : x < 0 → AW G lo ce sl tgt lv st h) (kf : ¬ x < 0 → AW G lo ce sl (pc + 3) lv st h) : AW G lo ce sl pc lv (.int x :: st) h := by
  obtain ⟨p, l, e, R, s, m, args, below, meth, c, Q, dd, nL⟩ := G
  obtain ⟨hx, hb, hr, hml, hown, hts, hlk, hK, hlo, rfl, rfl⟩ := C
  exact fun ls H locs hl hH hS => lv_if_lt hx hb d ht (fun q => kt q ls H locs hl hH hS) (fun q => kf q ls H locs hl hH hS)
theorem a_icmp_ge (C : CX G lo cc own ret rm nL0) {x y : Int32} {off : Int} {tgt : Nat} (d : decode cc pc = .ok (.if_icmp .ge off, 3)) (ht : (pc : Int) + off = (tgt : Int)) (kt : y ≤ x → AW G lo ce sl tgt lv st h) (kf : ¬ y ≤ x → AW G lo ce sl (pc + 3) lv st h) : AW G lo ce sl pc lv (.int y :: .int x :: st) h := by
  obtain ⟨p, l, e, R, s, m, args, below, meth, c, Q, dd, nL⟩ := G
  obtain ⟨hx, hb, hr, hml, hown, hts, hlk, hK, hlo, rfl, rfl⟩ := C
  exact fun ls H locs hl hH hS => lv_icmp_ge hx hb d ht (fun q => kt q ls H locs hl hH hS) (fun q => kf q ls H locs hl hH hS)
theorem a_if_ge (C : CX G lo cc own ret rm nL0) {x : Int32} {off : Int} {tgt : Nat} (d : decode cc pc = .ok (.ifCond .ge off, 3)) (ht : (pc : Int) + off = (tgt : Int)) (kt : 0 ≤ x → AW G lo ce sl tgt lv st h) (kf : ¬ 0 ≤ x → AW G lo ce sl (pc + 3) lv st h) : AW G lo ce sl pc lv (.int x :: st) h := by
  obtain ⟨p, l, e, R, s, m, args, below, meth, c, Q, dd, nL⟩ := G
  obtain ⟨hx, hb, hr, hml, hown, hts, hlk, hK, hlo, rfl, rfl⟩ := C
  exact fun ls H locs hl hH hS => lv_if_ge hx hb d ht (fun q => kt q ls H locs hl hH hS) (fun q => kf q ls H locs hl hH hS)
theorem a_icmp_gt (C : CX G lo cc own ret rm nL0) {x y : Int32} {off : Int} {tgt : Nat} (d : decode cc pc = .ok (.if_icmp .gt off, 3)) (ht : (pc : Int) + off = (tgt : Int)) (kt : y < x → AW G lo ce sl tgt lv st h) (kf : ¬ y < x → AW G lo ce sl (pc + 3) lv st h) : AW G lo ce sl pc lv (.int y :: .int x :: st) h := by
  obtain ⟨p, l, e, R, s, m, args, below, meth, c, Q, dd, nL⟩ := G
  obtain ⟨hx, hb, hr, hml, hown, hts, hlk, hK, hlo, rfl, rfl⟩ := C
  exact fun ls H locs hl hH hS => lv_icmp_gt hx hb d ht (fun q => kt q ls H locs hl hH hS) (fun q => kf q ls H locs hl hH hS)
theorem a_if_gt (C : CX G lo cc own ret rm nL0) {x : Int32} {off : Int} {tgt : Nat} (d : decode cc pc = .ok (.ifCond .gt off, 3)) (ht : (pc : Int) + off = (tgt : Int)) (kt : 0 < x → AW G lo ce sl tgt lv st h) (kf : ¬ 0 < x → AW G lo ce sl (pc + 3) lv st h) : AW G lo ce sl pc lv (.int x :: st) h := by
  obtain ⟨p, l, e, R, s, m, args, below, meth, c, Q, dd, nL⟩ := G
  obtain ⟨hx, hb, hr, hml, hown, hts, hlk, hK, hlo, rfl, rfl⟩ := C
  exact fun ls H locs hl hH hS => lv_if_gt hx hb d ht (fun q => kt q ls H locs hl hH hS) (fun q => kf q ls H locs hl hH hS)
theorem a_icmp_le (C : CX G lo cc own ret rm nL0) {x y : Int32} {off : Int} {tgt : Nat} (d : decode cc pc = .ok (.if_icmp .le off, 3)) (ht : (pc : Int) + off = (tgt : Int)) (kt : x ≤ y → AW G lo ce sl tgt lv st h) (kf : ¬ x ≤ y → AW G lo ce sl (pc + 3) lv st h) : AW G lo ce sl pc lv (.int y :: .int x :: st) h := by
  obtain ⟨p, l, e, R, s, m, args, below, meth, c, Q, dd, nL⟩ := G
  obtain ⟨hx, hb, hr, hml, hown, hts, hlk, hK, hlo, rfl, rfl⟩ := C
  exact fun ls H locs hl hH hS => lv_icmp_le hx hb d ht (fun q => kt q ls H locs hl hH hS) (fun q => kf q ls H locs hl hH hS)
theorem a_if_le (C : CX G lo cc own ret rm nL0) {x : Int32} {off : Int} {tgt : Nat} (d : decode cc pc = .ok (.ifCond .le off, 3)) (ht : (pc : Int) + off = (tgt : Int)) (kt : x ≤ 0 → AW G lo ce sl tgt lv st h) (kf : ¬ x ≤ 0 → AW G lo ce sl (pc + 3) lv st h) : AW G lo ce sl pc lv (.int x :: st) h := by
  obtain ⟨p, l, e, R, s, m, args, below, meth, c, Q, dd, nL⟩ := G
  obtain ⟨hx, hb, hr, hml, hown, hts, hlk, hK, hlo, rfl, rfl⟩ := C
  exact fun ls H locs hl hH hS => lv_if_le hx hb d ht (fun q => kt q ls H locs hl hH hS) (fun q => kf q ls H locs hl hH hS)
theorem a_ifnull (C : CX G lo cc own ret rm nL0) {x : Nat} {off : Int} (d : decode cc pc = .ok (.ifnull off, 3)) (k : AW G lo ce sl (pc + 3) lv (st) h) : AW G lo ce sl pc lv (.ref x :: st) h := by
  obtain ⟨p, l, e, R, s, m, args, below, meth, c, Q, dd, nL⟩ := G
  obtain ⟨hx, hb, hr, hml, hown, hts, hlk, hK, hlo, rfl, rfl⟩ := C
  exact fun ls H locs hl hH hS => lv_ifnull hx hb d (k ls H locs hl hH hS)
theorem a_ifnullN (C : CX G lo cc own ret rm nL0) {off : Int} {tgt : Nat} (d : decode cc pc = .ok (.ifnull off, 3)) (ht : (pc : Int) + off = (tgt : Int)) (k : AW G lo ce sl (tgt) lv (st) h) : AW G lo ce sl pc lv (.null :: st) h := by
  obtain ⟨p, l, e, R, s, m, args, below, meth, c, Q, dd, nL⟩ := G
  obtain ⟨hx, hb, hr, hml, hown, hts, hlk, hK, hlo, rfl, rfl⟩ := C
  exact fun ls H locs hl hH hS => lv_ifnullN hx hb d ht (k ls H locs hl hH hS)
theorem a_ifnonnull (C : CX G lo cc own ret rm nL0) {x : Nat} {off : Int} {tgt : Nat} (d : decode cc pc = .ok (.ifnonnull off, 3)) (ht : (pc : Int) + off = (tgt : Int)) (k : AW G lo ce sl (tgt) lv (st) h) : AW G lo ce sl pc lv (.ref x :: st) h := by
  obtain ⟨p, l, e, R, s, m, args, below, meth, c, Q, dd, nL⟩ := G
  obtain ⟨hx, hb, hr, hml, hown, hts, hlk, hK, hlo, rfl, rfl⟩ := C
  exact fun ls H locs hl hH hS => lv_ifnonnull hx hb d ht (k ls H locs hl hH hS)
theorem a_ifnonnullN (C : CX G lo cc own ret rm nL0) {off : Int} (d : decode cc pc = .ok (.ifnonnull off, 3)) (k : AW G lo ce sl (pc + 3) lv (st) h) : AW G lo ce sl pc lv (.null :: st) h := by
  obtain ⟨p, l, e, R, s, m, args, below, meth, c, Q, dd, nL⟩ := G
  obtain ⟨hx, hb, hr, hml, hown, hts, hlk, hK, hlo, rfl, rfl⟩ := C
  exact fun ls H locs hl hH hS => lv_ifnonnullN hx hb d (k ls H locs hl hH hS)
theorem a_tableIn (C : CX G lo cc own ret rm nL0) {dflt a b : Int} {offs : Array Int} {len : Nat} {x : Int32} {off : Int} {tgt : Nat} (d : decode cc pc = .ok (.tableswitch dflt a b offs, len)) (h1 : ¬ x.toInt < a) (h2 : ¬ b < x.toInt) (ho : offs[(x.toInt - a).toNat]? = some off) (ht : (pc : Int) + off = (tgt : Int)) (k : AW G lo ce sl (tgt) lv (st) h) : AW G lo ce sl pc lv (.int x :: st) h := by
  obtain ⟨p, l, e, R, s, m, args, below, meth, c, Q, dd, nL⟩ := G
  obtain ⟨hx, hb, hr, hml, hown, hts, hlk, hK, hlo, rfl, rfl⟩ := C
  exact fun ls H locs hl hH hS => lv_tableIn hx hb d h1 h2 ho ht (k ls H locs hl hH hS)
theorem a_tableOut (C : CX G lo cc own ret rm nL0) {dflt a b : Int} {offs : Array Int} {len : Nat} {x : Int32} {tgt : Nat} (d : decode cc pc = .ok (.tableswitch dflt a b offs, len)) (h1 : x.toInt < a ∨ b < x.toInt) (ht : (pc : Int) + dflt = (tgt : Int)) (k : AW G lo ce sl (tgt) lv (st) h) : AW G lo ce sl pc lv (.int x :: st) h := by
  obtain ⟨p, l, e, R, s, m, args, below, meth, c, Q, dd, nL⟩ := G
  obtain ⟨hx, hb, hr, hml, hown, hts, hlk, hK, hlo, rfl, rfl⟩ := C
  exact fun ls H locs hl hH hS => lv_tableOut hx hb d h1 ht (k ls H locs hl hH hS)
theorem a_lookup (C : CX G lo cc own ret rm nL0) {dflt : Int} {ps : Array (Int × Int)} {len : Nat} {x : Int32} {off : Int} {tgt : Nat} (d : decode cc pc = .ok (.lookupswitch dflt ps, len)) (hp : (ps.toList.zip (ps.toList.drop 1)).all (fun (a, next) => a.1 < next.1) = true) (ho : Op.lookupswitch.offset ps.toList dflt x.toInt = off) (ht : (pc : Int) + off = (tgt : Int)) (k : AW G lo ce sl (tgt) lv (st) h) : AW G lo ce sl pc lv (.int x :: st) h := by
  obtain ⟨p, l, e, R, s, m, args, below, meth, c, Q, dd, nL⟩ := G
  obtain ⟨hx, hb, hr, hml, hown, hts, hlk, hK, hlo, rfl, rfl⟩ := C
  exact fun ls H locs hl hH hS => lv_lookup hx hb d hp ho ht (k ls H locs hl hH hS)
theorem a_sub {lv2 : List (Nat × Value)} (ks : List Nat) (hq : lv_pick lv ks = lv2) (k : AW G lo ce sl pc lv2 st h) : AW G lo ce sl pc lv st h := by
  obtain ⟨p, l, e, R, s, m, args, below, meth, c, Q, dd, nL⟩ := G
  exact fun ls H locs hl hH hS => k ls H locs (lv_sub hl ks hq) hH hS
theorem a_widen {ce2 sl2 : Nat} (h1 : ce ≤ ce2) (h2 : sl ≤ sl2) (k : AW G lo ce2 sl2 pc lv st h) : AW G lo ce sl pc lv st h := by
  obtain ⟨p, l, e, R, s, m, args, below, meth, c, Q, dd, nL⟩ := G
  exact fun ls H locs hl hH hS => W.widen h1 h2 (k ls H locs hl hH hS)
theorem a_topi {x : Int32} (k : ∀ y : Int32, y = x → AW G lo ce sl pc lv (.int y :: st) h) : AW G lo ce sl pc lv (.int x :: st) h := k x rfl
theorem a_topl {x : Int64} (k : ∀ y : Int64, y = x → AW G lo ce sl pc lv (.long y :: st) h) : AW G lo ce sl pc lv (.long x :: st) h := k x rfl
end Rows
