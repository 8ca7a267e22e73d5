/-! WHAT THE FUNCTIONS ARE MADE OF -/
def bA {α β : Type} (o : Option α) (f : α → Option β) : Option β := match o with
  | some a => f a
  | none => none
def b2 {α β γ : Type} (o : Option (α × β)) (f : α → β → Option γ) : Option γ := match o with
  | some (a, b) => f a b
  | none => none
def b3 {α β δ γ : Type} (o : Option (α × β × δ)) (f : α → β → δ → Option γ) : Option γ := match o with
  | some (a, b, c) => f a b c
  | none => none
def b4 {α β δ ε γ : Type} (o : Option (α × β × δ × ε)) (f : α → β → δ → ε → Option γ) : Option γ := match o with
  | some (a, b, c, d) => f a b c d
  | none => none
def b5 {α β δ ε ζ γ : Type} (o : Option (α × β × δ × ε × ζ)) (f : α → β → δ → ε → ζ → Option γ) : Option γ := match o with
  | some (a, b, c, d, e) => f a b c d e
  | none => none
theorem bA_some {α β : Type} {o : Option α} {f : α → Option β} {b : β} (e : bA o f = some b) : ∃ a, o = some a ∧ f a = some b := by
  cases o with
  | none => cases e
  | some a => exact ⟨a, rfl, e⟩
theorem b2_some {α β γ : Type} {o : Option (α × β)} {f : α → β → Option γ} {r : γ} (e : b2 o f = some r) : ∃ a b, o = some (a, b) ∧ f a b = some r := by
  cases o with
  | none => cases e
  | some x => exact ⟨x.1, x.2, rfl, e⟩
theorem b3_some {α β δ γ : Type} {o : Option (α × β × δ)} {f : α → β → δ → Option γ} {r : γ} (e : b3 o f = some r) : ∃ a b c, o = some (a, b, c) ∧ f a b c = some r := by
  cases o with
  | none => cases e
  | some x => exact ⟨x.1, x.2.1, x.2.2, rfl, e⟩
theorem b4_some {α β δ ε γ : Type} {o : Option (α × β × δ × ε)} {f : α → β → δ → ε → Option γ} {r : γ} (e : b4 o f = some r) : ∃ a b c d, o = some (a, b, c, d) ∧ f a b c d = some r := by
  cases o with
  | none => cases e
  | some x => exact ⟨x.1, x.2.1, x.2.2.1, x.2.2.2, rfl, e⟩
theorem b5_some {α β δ ε ζ γ : Type} {o : Option (α × β × δ × ε × ζ)} {f : α → β → δ → ε → ζ → Option γ} {r : γ} (e : b5 o f = some r) : ∃ a b c d g, o = some (a, b, c, d, g) ∧ f a b c d g = some r := by
  cases o with
  | none => cases e
  | some x => exact ⟨x.1, x.2.1, x.2.2.1, x.2.2.2.1, x.2.2.2.2, rfl, e⟩
theorem ip {p : Prop} [hd : Decidable p] {α : Type} {a b : Option α} {r : α} (c : p) (e : (if p then a else b) = some r) : a = some r := by
  rw [if_pos c] at e; exact e
theorem iN {p : Prop} [hd : Decidable p] {α : Type} {a b : Option α} {r : α} (c : ¬ p) (e : (if p then a else b) = some r) : b = some r := by
  rw [if_neg c] at e; exact e
def nzI (x : Int32) : Option Unit := if x = 0 then none else some ()
def nzL (x : Int64) : Option Unit := if x = 0 then none else some ()
theorem nzI_some {x : Int32} {u : Unit} (e : nzI x = some u) : ¬ x = 0 := fun h => by
  unfold nzI at e; rw [if_pos h] at e; cases e
theorem nzL_some {x : Int64} {u : Unit} (e : nzL x = some u) : ¬ x = 0 := fun h => by
  unfold nzL at e; rw [if_pos h] at e; cases e
def bz (x : Int32) : Option Unit := if x = 0 ∨ x = 1 then some () else none
theorem bz_some {x : Int32} {u : Unit} (e : bz x = some u) : x = 0 ∨ x = 1 := by
  unfold bz at e
  split at e
  · next h => exact h
  · cases e
def okN (x : Int32) : Option Unit := if ¬ x < 0 ∧ x.toNatClampNeg ≤ 40 then some () else none
theorem okN_some {x : Int32} {u : Unit} (e : okN x = some u) : ¬ x < 0 ∧ x.toNatClampNeg ≤ 40 := by
  unfold okN at e
  split at e
  · next h => exact h
  · cases e
def nw {β : Type} (h : Hp) (c : Cl) (f : Nat → Hp → Option β) : Option β := f h.1 (hnew h c)
theorem nw_some {β : Type} {h : Hp} {c : Cl} {f : Nat → Hp → Option β} {b : β} (e : nw h c f = some b) : ∃ q h2, q = h.1 ∧ h2 = hnew h c ∧ f q h2 = some b := ⟨_, _, rfl, rfl, e⟩
def VD (x : MethodName) (c lo : Nat) (rmV : Room) (as : List Value) (h : Hp) (b : Nat) (rv : Option Value) (h' : Hp) : Prop := ∃ (CN : String) (T : u_T) (N : Nat) (ty : Nat → FieldType) (y : MethodName) (cy : ByteArray) (nLy : Nat) (rety : Option FieldType) (n : Nat), CB c CN T N ty ∧ MI y cy nLy rety n ∧ Cond.instanceMethod y ∈ gw ∧ Cond.selects CN x y ∈ gw ∧ x.desc = y.desc ∧ as.length = n ∧ nLy ≤ 5 ∧ ∀ l d, AC l d lo y cy nLy rety rmV (.ref (lo + b) :: as) h rv h'
section Calls3
variable {G : Gm} {lo ce sl pc : Nat} {lv : List (Nat × Value)} {st : List Value} {h : Hp} {cc : ByteArray} {own : String} {ret : Option FieldType} {rm : Room} {nL0 : Nat}
theorem a_callD (C : CX G lo cc own ret rm nL0) {x : MethodName} {rmV : Room} {as rest : List Value} {rv : Option Value} {h' : Hp} {b c idx : Nat} {fs : List Vl} (v : VD x c lo rmV as h b rv h') (hsm : Cond.sameMethod x.cls x.cls x.name x.desc ∈ gw) (hdu : DU x) (how : x.cls ≠ "java/lang/invoke/MethodHandle" ∧ x.cls ≠ "java/lang/invoke/VarHandle") (hl : Cond.methodLink own idx x ∈ gw) (hfr : rmV.frames + 1 ≤ rm.frames) (hlo : 8 + (5 + 11) + rmV.locals ≤ rm.locals) (hce : ce + rmV.cells ≤ rm.cells) (hsl : sl + rmV.slots ≤ rm.slots) (hcat : (rest.map fun v => v.category).sum ≤ 8) (d : decode cc pc = .ok (.invokevirtual idx, 3)) (ho : gO h b = some (c, fs)) (hst : st = as.reverse ++ .ref (lo + b) :: rest) (k : AW G lo (ce + rmV.cells) (sl + rmV.slots) (pc + 3) lv (rv.toList ++ rest) h') : AW G lo ce sl pc lv st h := by
  obtain ⟨CN, T, N, ty, y, cy, nLy, rety, n, v1, v2, v3, v4, v5, v6, v7, v8⟩ := v
  exact a_callU (x := x) (owner := x.cls) C v2 v3 v1 v4 hsm hdu how v5 hl v6 hfr (by omega) hce hsl hcat d ho v8 hst k
theorem a_mmin (C : CX G lo cc own ret rm nL0) {x y : Int32} {idx : Nat} (hl : Cond.methodLink own idx Lib.Math.min.name ∈ gw) (hst : Cond.static Lib.Math.min.name ∈ gw) (hini : Cond.initialized "java/lang/Math" ∈ gw) (hco : Cond.code Lib.Math.min.name Lib.Math.min.code 2 (some .int) ∈ gw) (hfr : 1 ≤ rm.frames) (hlc : (st.map fun v => v.category).sum + 13 ≤ rm.locals) (hce : ce ≤ rm.cells) (hsl : sl ≤ rm.slots) (d : decode cc pc = .ok (.invokestatic idx, 3)) (k : AW G lo ce sl (pc + 3) lv (.int (if y < x then y else x) :: st) h) : AW G lo ce sl pc lv (.int y :: .int x :: st) h := by
  obtain ⟨p, l, e, R, s, m, args, below, meth, c, Q, dd, nL⟩ := G
  obtain ⟨hx, hb, hr, hml, hown, hts, hlk, hK, hlo', rfl, rfl⟩ := C
  exact fun ls H locs hlv hH hS => va_mmin hx hb (by rw [hml]; exact hlv.1.symm) hown (hts _ hl) (hts _ hst) (hts _ hini) (hts _ hco) hfr hlc hce hsl d (k ls H locs hlv hH hS)
end Calls3
theorem sp1 {α : Type} {a c : α} (e : some a = some c) : c = a := (Option.some.inj e).symm
theorem sp2 {α β : Type} {a c : α} {b d : β} (e : some (a, b) = some (c, d)) : c = a ∧ d = b := by
  have q := Option.some.inj e
  exact ⟨(congrArg Prod.fst q).symm, (congrArg Prod.snd q).symm⟩
theorem sp3 {α β γ : Type} {a a2 : α} {b c2 : β} {c d2 : γ} (e : some (a, b, c) = some (a2, c2, d2)) : a2 = a ∧ c2 = b ∧ d2 = c := by
  have q := Option.some.inj e
  exact ⟨(congrArg Prod.fst q).symm, (congrArg (fun x => x.2.1) q).symm, (congrArg (fun x => x.2.2) q).symm⟩
theorem sp4 {α β γ δ : Type} {a a2 : α} {b c2 : β} {c d2 : γ} {d e2 : δ} (e : some (a, b, c, d) = some (a2, c2, d2, e2)) : a2 = a ∧ c2 = b ∧ d2 = c ∧ e2 = d := by
  have q := Option.some.inj e
  exact ⟨(congrArg Prod.fst q).symm, (congrArg (fun x => x.2.1) q).symm, (congrArg (fun x => x.2.2.1) q).symm, (congrArg (fun x => x.2.2.2) q).symm⟩
theorem sp5 {α β γ δ ε : Type} {a a2 : α} {b c2 : β} {c d2 : γ} {d e2 : δ} {f f2 : ε} (e : some (a, b, c, d, f) = some (a2, c2, d2, e2, f2)) : a2 = a ∧ c2 = b ∧ d2 = c ∧ e2 = d ∧ f2 = f := by
  have q := Option.some.inj e
  exact ⟨(congrArg Prod.fst q).symm, (congrArg (fun x => x.2.1) q).symm, (congrArg (fun x => x.2.2.1) q).symm, (congrArg (fun x => x.2.2.2.1) q).symm, (congrArg (fun x => x.2.2.2.2) q).symm⟩
theorem AC_ofF {l : Launch} {d : DD} {lo : Nat} {y : MethodName} {cy : ByteArray} {nL : Nat} {ret : Option FieldType} {rm : Room} {as : List Value} {h : Hp} {rv : Option Value} {h' : Hp} (hy : plainFor y = true) (hargs : (lg_sl as).length ≤ nL)
    (core : ∀ G : Gm, CX G lo cy y.cls ret rm nL → MN G y.name → LD G = (l, d) → RQ G lo rv h' rm.cells rm.slots → AW G lo 0 0 0 (lv_args 0 as) [] h) : AC l d lo y cy nL ret rm as h rv h' := by
  refine va_MetF (cc := cy) (maxL := nL) (ret := ret) hy rfl ?_
  intro p e s m args below meth c s₁ B hml hv
  obtain ⟨rfl, hK, hH⟩ := hv
  have hts := atoms_spec (ws := .code y cy nL ret :: gw) B.pre
  have hown : s.vm.findClass y.cls = some m.cls := findClass_of_methodNamed B.named
  have hn : meth.name = y.name := (name_of_methodNamed B.named B.method).1
  have hlo : lo ≤ s.heap.size := by rw [hH.1]; exact Nat.le_add_right _ _
  have K := core (p, l, e, (headSpec (.code y cy nL ret :: gw) rm).room, s, m, as.toArray, below, meth, c, _, d, nL) ⟨B.exec, B.bytes, B.returns, hml, hown, fun w hw => hts w (List.mem_cons_of_mem _ hw), B.notSynchronized, hK, hlo, rfl, rfl⟩ hn rfl rfl
  rw [lg_entry_eq]
  exact K _ s.heap [] (lv_entry as hargs) hH va_S.rf
