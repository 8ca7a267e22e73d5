/-! THE ABSTRACT HEAP: n cells from 'lo' on, each an int or boolean row, a row of references, or an object; references are told from lo on -/
abbrev Vl : Type := Int32 ⊕ Option Nat
abbrev Cl : Type := (Nat × Nat × (Nat → Int32)) ⊕ ((Nat × Nat × (Nat → Option Nat)) ⊕ (Nat × List Vl))
abbrev Hp : Type := Nat × (Nat → Cl)
abbrev DD : Type := (Nat → ClassId) × (Nat → Nat → Nat) × (Nat → ClassId)
def tysL (dA : Nat → ClassId) : List (ClassId × FieldType) := [(dA 0, .int), (dA 1, .boolean), (dA 2, .object RX8), (dA 3, .object RX3), (dA 4, .object RX2)]
def rl (lo : Nat) (r : Option Nat) : Option Nat := r.map (fun a => lo + a)
def vl (lo : Nat) (v : Vl) : Value := match v with
  | .inl x => .int x
  | .inr r => va_rf (rl lo r)
def cv (lo : Nat) (dA : Nat → ClassId) (c : Cl) : va_E := match c with
  | .inl (t, n, f) => .inl (dA t, n, .inl f)
  | .inr (.inl (t, n, f)) => .inl (dA t, n, .inr (.inr (.inr (.inr (fun k => rl lo (f k))))))
  | .inr (.inr (c, fs)) => .inr (c, fs.map (vl lo))
def bwN : List Cond := [.methodLinkNest RX11 17 yX7_init RX11, .methodLinkNest RX7 17 yX3_init RX11, .methodLinkNest RX11 24 yX10_init RX11, .methodLinkNest RX10 11 yX3_init RX11, .methodLinkNest RX11 69 yX8_init RX11, .methodLinkNest RX11 70 yX3_init RX11, .castable RX0 RX2, .castable RX1 RX2, .castable RX5 RX2, .castable RX9 RX2, .castable RX4 RX2, .declares ⟨RX2, "loud", "(I)I"⟩, .declares ⟨RX2, "sort", "()I"⟩]
def KK (d : DD) (U : State) : Prop := va_K (d.1, d.2.1) vwCl (tysL d.2.2) U ∧ (∀ w ∈ bwN, va_Nw w U) ∧ va_AO RX8 U ∧ va_AO RX3 U ∧ va_AO RX2 U
theorem KK.warm {d : DD} {s U : State} (hW : s.WarmedH U.vm) (h : KK d s) : KK d U := by
  refine ⟨va_K.moved hW.alike h.1, fun w hw => ?_, va_AO.moved hW.alike h.2.2.1, va_AO.moved hW.alike h.2.2.2.1, va_AO.moved hW.alike h.2.2.2.2⟩
  have hz := h.2.1 w hw
  simp only [bwN, List.mem_cons, List.not_mem_nil, or_false] at hw
  rcases hw with rfl | rfl | rfl | rfl | rfl | rfl | rfl | rfl | rfl | rfl | rfl | rfl | rfl <;> first | exact va_Nw.warmM hW hz | exact va_Nw.warmC hW hz | exact va_Nw.warmD hW hz
theorem bwN_tab : ∀ w ∈ bwN, w.onTables = true := by decide +kernel
theorem KK.same {d : DD} {s U : State} (e : s.vm = U.vm) (h : KK d s) : KK d U := by
  have ha : s.vm.Alike U.vm := by rw [e]; exact Vm.Alike.refl U.vm
  exact ⟨va_K.moved ha h.1, fun w hw => va_Nw.same (bwN_tab w hw) e (h.2.1 w hw), va_AO.moved ha h.2.2.1, va_AO.moved ha h.2.2.2.1, va_AO.moved ha h.2.2.2.2⟩
def HP (d : DD) (lo : Nat) (h : Hp) (H : Heap) : Prop := H.size = lo + h.1 ∧ ∀ a, a < h.1 → va_at (d.1, d.2.1) vwCl (lo + a, cv lo d.2.2 (h.2 a)) H
def hup (h : Hp) (a : Nat) (c : Cl) : Hp := (h.1, va_up h.2 a c)
def hnew (h : Hp) (c : Cl) : Hp := (h.1 + 1, va_up h.2 h.1 c)
theorem HP.at {d : DD} {lo : Nat} {h : Hp} {H : Heap} (hH : HP d lo h H) {a : Nat} (ha : a < h.1) {c : Cl} (hc : h.2 a = c) : va_at (d.1, d.2.1) vwCl (lo + a, cv lo d.2.2 c) H := hc ▸ hH.2 a ha
theorem HP.up {d : DD} {lo : Nat} {h : Hp} {H H1 : Heap} (hH : HP d lo h H) {a : Nat} {c : Cl} (hz : H1.size = H.size) (oq : ∀ q : Nat, q ≠ lo + a → H1[q]? = H[q]?) (hc : va_at (d.1, d.2.1) vwCl (lo + a, cv lo d.2.2 c) H1) : HP d lo (hup h a c) H1 := by
  refine ⟨hz.trans hH.1, fun b hb => ?_⟩
  by_cases e : b = a
  · subst e
    show va_at _ _ (lo + b, cv lo d.2.2 (va_up h.2 b c b)) H1
    rw [va_up_self]
    exact hc
  · show va_at _ _ (lo + b, cv lo d.2.2 (va_up h.2 a c b)) H1
    rw [va_up_ne _ _ e]
    exact (hH.2 b hb).kept (oq _ (fun q => e (Nat.add_left_cancel q)))
theorem HP.push {d : DD} {lo : Nat} {h : Hp} {H H1 : Heap} (hH : HP d lo h H) {c : Cl} (hz : H1.size = H.size + 1) (oq : ∀ q : Nat, q < H.size → H1[q]? = H[q]?) (hc : va_at (d.1, d.2.1) vwCl (H.size, cv lo d.2.2 c) H1) : HP d lo (hnew h c) H1 := by
  refine ⟨by rw [hz, hH.1]; exact Nat.add_assoc _ _ _, fun b hb => ?_⟩
  have hb : b < h.1 + 1 := hb
  by_cases e : b = h.1
  · subst e
    show va_at _ _ (lo + h.1, cv lo d.2.2 (va_up h.2 h.1 c h.1)) H1
    rw [va_up_self, ← hH.1]
    exact hc
  · show va_at _ _ (lo + b, cv lo d.2.2 (va_up h.2 h.1 c b)) H1
    rw [va_up_ne _ _ e]
    exact (hH.2 b (by omega)).kept (oq _ (by rw [hH.1]; omega))
/-! WHAT IS READ AND WRITTEN: functions that answer none where the machine would throw -/
def gO (h : Hp) (a : Nat) : Option (Nat × List Vl) := if a < h.1 then (match h.2 a with | .inr (.inr o) => some o | _ => none) else none
def gI (h : Hp) (a ci k : Nat) : Option Int32 := match gO h a with
  | some (c, fs) => if c = ci then (match fs[k]? with | some (.inl x) => some x | _ => none) else none
  | none => none
def gN (h : Hp) (a ci k : Nat) : Option Nat := match gO h a with
  | some (c, fs) => if c = ci then (match fs[k]? with | some (.inr (some x)) => some x | _ => none) else none
  | none => none
def isD (c : Nat) : Bool := c == 0 || c == 1 || c == 3 || c == 4 || c == 8
/-- the kind of a door's object -/
def gC (h : Hp) (a : Nat) : Option Nat := match gO h a with
  | some (c, _) => if isD c = true then some c else none
  | none => none
def gD (h : Hp) (a k : Nat) : Option Int32 := match gO h a with
  | some (c, fs) => if isD c = true then (match fs[k]? with | some (.inl x) => some x | _ => none) else none
  | none => none
def isC (h : Hp) (a ci : Nat) : Option Unit := match gO h a with
  | some (c, _) => if c = ci then some () else none
  | none => none
def pV (h : Hp) (a ci k : Nat) (v : Vl) : Option Hp := match gO h a with
  | some (c, fs) => if c = ci ∧ k < fs.length then some (hup h a (.inr (.inr (c, fs.set k v)))) else none
  | none => none
def pD (h : Hp) (a k : Nat) (v : Vl) : Option Hp := match gO h a with
  | some (c, fs) => if isD c = true ∧ k < fs.length then some (hup h a (.inr (.inr (c, fs.set k v)))) else none
  | none => none
def gA (h : Hp) (a t : Nat) : Option (Nat × (Nat → Int32)) := if a < h.1 then (match h.2 a with | .inl (t', n, f) => if t' = t then some (n, f) else none | _ => none) else none
def gQ (h : Hp) (a t : Nat) : Option (Nat × (Nat → Option Nat)) := if a < h.1 then (match h.2 a with | .inr (.inl (t', n, f)) => if t' = t then some (n, f) else none | _ => none) else none
def ald (h : Hp) (a t : Nat) (i : Int32) : Option Int32 := match gA h a t with
  | some (n, f) => if i < 0 ∨ n ≤ i.toNatClampNeg then none else some (f i.toNatClampNeg)
  | none => none
def ast (h : Hp) (a t : Nat) (i x : Int32) : Option Hp := match gA h a t with
  | some (n, f) => if i < 0 ∨ n ≤ i.toNatClampNeg then none else some (hup h a (.inl (t, n, upd f i.toNatClampNeg x)))
  | none => none
def aln (h : Hp) (a t : Nat) : Option Int32 := match gA h a t with
  | some (n, _) => some (Int32.ofNat n)
  | none => none
def qln (h : Hp) (a t : Nat) : Option Int32 := match gQ h a t with
  | some (n, _) => some (Int32.ofNat n)
  | none => none
def aldq (h : Hp) (a t : Nat) (i : Int32) : Option (Option Nat) := match gQ h a t with
  | some (n, f) => if i < 0 ∨ n ≤ i.toNatClampNeg then none else some (f i.toNatClampNeg)
  | none => none
def aldn (h : Hp) (a t : Nat) (i : Int32) : Option Nat := match aldq h a t i with
  | some r => r
  | none => none
/-- what may stand in a row of references of a kind -/
def okq (h : Hp) (t : Nat) (r : Option Nat) : Bool := match r with
  | none => t == 4
  | some v => match gO h v with
    | some (c, _) => (t == 2 && c == 7) || (t == 3 && c == 2) || (t == 4 && isD c)
    | none => false
def astq (h : Hp) (a t : Nat) (i : Int32) (r : Option Nat) : Option Hp := match gQ h a t with
  | some (n, f) => if (i < 0 ∨ n ≤ i.toNatClampNeg) ∨ ¬ okq h t r = true then none else some (hup h a (.inr (.inl (t, n, va_up f i.toNatClampNeg r))))
  | none => none
def acpy (h : Hp) (a0 : Nat) (sp : Int32) (a1 : Nat) (dp n : Int32) : Option Hp := match gA h a0 0, gA h a1 0 with
  | some (n0, f), some (n1, g) => if sp < 0 ∨ dp < 0 ∨ n < 0 ∨ n0 < sp.toNatClampNeg + n.toNatClampNeg ∨ n1 < dp.toNatClampNeg + n.toNatClampNeg then none else some (hup h a1 (.inl (0, n1, va_cpy f g sp.toNatClampNeg dp.toNatClampNeg n.toNatClampNeg)))
  | _, _ => none
theorem gO_some {h : Hp} {a : Nat} {o : Nat × List Vl} (e : gO h a = some o) : a < h.1 ∧ h.2 a = .inr (.inr o) := by
  unfold gO at e
  by_cases ha : a < h.1
  · rw [if_pos ha] at e
    refine ⟨ha, ?_⟩
    split at e
    · next x hx => rw [hx]; cases e; rfl
    · cases e
  · rw [if_neg ha] at e; cases e
theorem gA_some {h : Hp} {a t : Nat} {o : Nat × (Nat → Int32)} (e : gA h a t = some o) : a < h.1 ∧ h.2 a = .inl (t, o) := by
  unfold gA at e
  by_cases ha : a < h.1
  · rw [if_pos ha] at e
    refine ⟨ha, ?_⟩
    split at e
    · next t' n f hx =>
      split at e
      · next q => rw [hx, q]; cases e; rfl
      · cases e
    · cases e
  · rw [if_neg ha] at e; cases e
theorem gQ_some {h : Hp} {a t : Nat} {o : Nat × (Nat → Option Nat)} (e : gQ h a t = some o) : a < h.1 ∧ h.2 a = .inr (.inl (t, o)) := by
  unfold gQ at e
  by_cases ha : a < h.1
  · rw [if_pos ha] at e
    refine ⟨ha, ?_⟩
    split at e
    · next t' n f hx =>
      split at e
      · next q => rw [hx, q]; cases e; rfl
      · cases e
    · cases e
  · rw [if_neg ha] at e; cases e
theorem gI_some {h : Hp} {a ci k : Nat} {x : Int32} (e : gI h a ci k = some x) : ∃ fs, gO h a = some (ci, fs) ∧ fs[k]? = some (.inl x) := by
  unfold gI at e
  split at e
  · next c fs ho =>
    split at e
    · next q =>
      subst q
      refine ⟨fs, ho, ?_⟩
      split at e
      · next y hy => cases e; exact hy
      · cases e
    · cases e
  · cases e
theorem gN_some {h : Hp} {a ci k : Nat} {x : Nat} (e : gN h a ci k = some x) : ∃ fs, gO h a = some (ci, fs) ∧ fs[k]? = some (.inr (some x)) := by
  unfold gN at e
  split at e
  · next c fs ho =>
    split at e
    · next q =>
      subst q
      refine ⟨fs, ho, ?_⟩
      split at e
      · next y hy => cases e; exact hy
      · cases e
    · cases e
  · cases e
theorem gD_some {h : Hp} {a k : Nat} {x : Int32} (e : gD h a k = some x) : ∃ c fs, gO h a = some (c, fs) ∧ isD c = true ∧ fs[k]? = some (.inl x) := by
  unfold gD at e
  split at e
  · next c fs ho =>
    split at e
    · next q =>
      refine ⟨c, fs, ho, q, ?_⟩
      split at e
      · next y hy => cases e; exact hy
      · cases e
    · cases e
  · cases e
theorem gC_some {h : Hp} {a c : Nat} (e : gC h a = some c) : ∃ fs, gO h a = some (c, fs) ∧ isD c = true := by
  unfold gC at e
  split at e
  · next c fs ho =>
    split at e
    · next q => cases e; exact ⟨fs, ho, q⟩
    · cases e
  · cases e
theorem isC_some {h : Hp} {a ci : Nat} {u : Unit} (e : isC h a ci = some u) : ∃ fs, gO h a = some (ci, fs) := by
  unfold isC at e
  split at e
  · next c fs ho =>
    split at e
    · next q => subst q; exact ⟨fs, ho⟩
    · cases e
  · cases e
theorem pV_some {h h' : Hp} {a ci k : Nat} {v : Vl} (e : pV h a ci k v = some h') : ∃ fs, gO h a = some (ci, fs) ∧ k < fs.length ∧ h' = hup h a (.inr (.inr (ci, fs.set k v))) := by
  unfold pV at e
  split at e
  · next c fs ho =>
    split at e
    · next q => obtain ⟨q1, q2⟩ := q; subst q1; cases e; exact ⟨fs, ho, q2, rfl⟩
    · cases e
  · cases e
theorem pD_some {h h' : Hp} {a k : Nat} {v : Vl} (e : pD h a k v = some h') : ∃ c fs, gO h a = some (c, fs) ∧ isD c = true ∧ k < fs.length ∧ h' = hup h a (.inr (.inr (c, fs.set k v))) := by
  unfold pD at e
  split at e
  · next c fs ho =>
    split at e
    · next q => cases e; exact ⟨c, fs, ho, q.1, q.2, rfl⟩
    · cases e
  · cases e
theorem ald_some {h : Hp} {a t : Nat} {i x : Int32} (e : ald h a t i = some x) : ∃ n f, gA h a t = some (n, f) ∧ ¬ (i < 0 ∨ n ≤ i.toNatClampNeg) ∧ x = f i.toNatClampNeg := by
  unfold ald at e
  split at e
  · next n f ho =>
    split at e
    · cases e
    · next q => cases e; exact ⟨n, f, ho, q, rfl⟩
  · cases e
theorem ast_some {h h' : Hp} {a t : Nat} {i x : Int32} (e : ast h a t i x = some h') : ∃ n f, gA h a t = some (n, f) ∧ ¬ (i < 0 ∨ n ≤ i.toNatClampNeg) ∧ h' = hup h a (.inl (t, n, upd f i.toNatClampNeg x)) := by
  unfold ast at e
  split at e
  · next n f ho =>
    split at e
    · cases e
    · next q => cases e; exact ⟨n, f, ho, q, rfl⟩
  · cases e
theorem aln_some {h : Hp} {a t : Nat} {x : Int32} (e : aln h a t = some x) : ∃ n f, gA h a t = some (n, f) ∧ Int32.ofNat n = x := by
  unfold aln at e
  split at e
  · next n f ho => cases e; exact ⟨n, f, ho, rfl⟩
  · cases e
theorem qln_some {h : Hp} {a t : Nat} {x : Int32} (e : qln h a t = some x) : ∃ n f, gQ h a t = some (n, f) ∧ Int32.ofNat n = x := by
  unfold qln at e
  split at e
  · next n f ho => cases e; exact ⟨n, f, ho, rfl⟩
  · cases e
theorem aldq_some {h : Hp} {a t : Nat} {i : Int32} {x : Option Nat} (e : aldq h a t i = some x) : ∃ n f, gQ h a t = some (n, f) ∧ ¬ (i < 0 ∨ n ≤ i.toNatClampNeg) ∧ x = f i.toNatClampNeg := by
  unfold aldq at e
  split at e
  · next n f ho =>
    split at e
    · cases e
    · next q => cases e; exact ⟨n, f, ho, q, rfl⟩
  · cases e
theorem aldn_some {h : Hp} {a t : Nat} {i : Int32} {x : Nat} (e : aldn h a t i = some x) : aldq h a t i = some (some x) := by
  unfold aldn at e
  split at e
  · next r hr => rw [hr, e]
  · cases e
theorem astq_some {h h' : Hp} {a t : Nat} {i : Int32} {r : Option Nat} (e : astq h a t i r = some h') : ∃ n f, gQ h a t = some (n, f) ∧ ¬ (i < 0 ∨ n ≤ i.toNatClampNeg) ∧ okq h t r = true ∧ h' = hup h a (.inr (.inl (t, n, va_up f i.toNatClampNeg r))) := by
  unfold astq at e
  split at e
  · next n f ho =>
    split at e
    · cases e
    · next q => cases e; exact ⟨n, f, ho, fun z => q (Or.inl z), Classical.byContradiction fun z => q (Or.inr z), rfl⟩
  · cases e
