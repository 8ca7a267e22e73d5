/-! STORES OF REFERENCES, NEW CELLS, COPIES -/
theorem rf_up (lo : Nat) (f : Nat → Option Nat) (k : Nat) (r : Option Nat) : (fun j => va_rf (rl lo (va_up f k r j))) = updV (fun j => va_rf (rl lo (f j))) k (va_rf (rl lo r)) := by
  funext q
  by_cases hq : q = k <;> simp [updV, va_up, hq]
theorem isD_ca {c : Nat} (h : isD c = true) : ∃ CN, (∃ T, vwCl[c]? = some (CN, T, 4)) ∧ Cond.castable CN RX2 ∈ bwN := by
  simp only [isD, Bool.or_eq_true, beq_iff_eq] at h
  rcases h with (((h | h) | h) | h) | h <;> subst h
  · exact ⟨RX0, ⟨_, rfl⟩, by simp [bwN]⟩
  · exact ⟨RX1, ⟨_, rfl⟩, by simp [bwN]⟩
  · exact ⟨RX4, ⟨_, rfl⟩, by simp [bwN]⟩
  · exact ⟨RX5, ⟨_, rfl⟩, by simp [bwN]⟩
  · exact ⟨RX9, ⟨_, rfl⟩, by simp [bwN]⟩
/-- what stands in a row of references may be stored there -/
theorem okq_store {d : DD} {lo : Nat} {h : Hp} {H : Heap} {s : State} {args : Array Value} (hK : KK d s) (hH : HP d lo h H) {t v : Nat} (ho : okq h t (some v) = true) : ∃ (cellV : Cell) (kA kC kE : Class) (comp : ClassId) (E : String), (tysL d.2.2)[t]? = some (d.2.2 t, .object E) ∧ H[lo + v]? = some cellV ∧ cellV.vm = .none ∧ s.vm.classes[d.2.2 t]? = some kA ∧ kA.kind = .array comp (.object E) ∧ s.vm.classes[comp]? = some kE ∧ s.vm.classes[cellV.cls]? = some kC ∧ s.vm.assignable cellV.cls comp = true := by
  unfold okq at ho
  simp only at ho
  split at ho
  · next c fs hg =>
    obtain ⟨ha, hc⟩ := gO_some hg
    obtain ⟨r, h1, cell, q1, q2, q3, q4⟩ := hH.at ha hc
    obtain ⟨hSl, hfc, kC, hkC, hkind⟩ := hK.1.1 c _ h1
    simp only [Bool.or_eq_true, Bool.and_eq_true, beq_iff_eq] at ho
    rcases ho with (⟨rfl, rfl⟩ | ⟨rfl, rfl⟩) | ⟨rfl, hD⟩
    · obtain ⟨kA, comp, k1, k2, k3, -⟩ := (hK.1.2 2 _ rfl).2
      cases h1
      have hcomp : comp = d.1 7 := Option.some.inj (k3.symm.trans hfc)
      subst hcomp
      exact ⟨cell, kA, kC, kC, _, RX8, rfl, q1, q3, k1, k2, hkC, by rw [q2]; exact hkC, by rw [q2]; exact va_assign ⟨hfc, kC, hkC, hkind⟩⟩
    · obtain ⟨kA, comp, k1, k2, k3, -⟩ := (hK.1.2 3 _ rfl).2
      cases h1
      have hcomp : comp = d.1 2 := Option.some.inj (k3.symm.trans hfc)
      subst hcomp
      exact ⟨cell, kA, kC, kC, _, RX3, rfl, q1, q3, k1, k2, hkC, by rw [q2]; exact hkC, by rw [q2]; exact va_assign ⟨hfc, kC, hkC, hkind⟩⟩
    · obtain ⟨kA, comp, k1, k2, k3, -⟩ := (hK.1.2 4 _ rfl).2
      obtain ⟨kE, hkE, -⟩ := Vm.findClass_spec k3
      obtain ⟨CN, ⟨T, hT⟩, hca⟩ := isD_ca hD
      cases h1.symm.trans hT
      obtain ⟨c0, t1, f1, f2, f3⟩ := Cond.castable_spec (va_Nw.use (A := args) rfl (hK.2.1 _ hca))
      cases hfc.symm.trans f1
      cases k3.symm.trans f2
      exact ⟨cell, kA, kC, kE, _, RX2, rfl, q1, q3, k1, k2, hkE, by rw [q2]; exact hkC, by rw [q2]; exact f3⟩
  · cases ho
section Calls1
variable {G : Gm} {lo ce sl pc : Nat} {lv : List (Nat × Value)} {st : List Value} {h : Hp} {cc : ByteArray} {own : String} {ret : Option FieldType} {rm : Room} {nL0 : Nat}
theorem a_astq (C : CX G lo cc own ret rm nL0) {a t : Nat} {i : Int32} {r : Option Nat} {h' : Hp} (d : decode cc pc = .ok (.aastore, 1)) (ho : astq h a t i r = some h') (kk : AW G lo ce sl (pc + 1) lv st h') : AW G lo ce sl pc lv (va_rf (rl lo r) :: .int i :: .ref (lo + a) :: st) h := by
  obtain ⟨p, l, e, R, s, m, args, below, meth, c, Q, dd, nL⟩ := G
  obtain ⟨hx, hb, hr, hml, hown, hts, hlk, hK, hlo, rfl, rfl⟩ := C
  intro ls H locs hlv hH hS
  obtain ⟨n, f, h1, h2, h3, rfl⟩ := astq_some ho
  obtain ⟨ha, hc⟩ := gQ_some h1
  have hcell : H[lo + a]? = some (arrV (dd.2.2 t) n (fun j => va_rf (rl lo (f j)))) := hH.at ha hc
  have fin : ∀ H1 : Heap, H1[lo + a]? = some ((arrV (dd.2.2 t) n (fun j => va_rf (rl lo (f j)))).setSlot i.toNatClampNeg (va_rf (rl lo r))) → H1.size = H.size → (∀ q, q ≠ lo + a → H1[q]? = H[q]?) → W p l e R s m args below meth c H1 (locs ++ [⟨lo + a, i.toNatClampNeg⟩]) ce sl Q (F0 m (pc + 1) ls st) := by
    intro H1 e1 z oq
    refine kk ls H1 _ hlv (hH.up z oq ?_) (hS.put z oq (Nat.le_add_right lo a))
    show H1[lo + a]? = some (arrV (dd.2.2 t) n (fun j => va_rf (rl lo (va_up f i.toNatClampNeg r j))))
    rw [e1, arrV_store, rf_up]
  cases r with
  | none =>
    have ht : t = 4 := by simpa [okq] using h3
    subst ht
    exact va_WaastN (C := RX2) hx hb hcell ((hK.1.2 4 _ rfl).1 n (fun j => va_rf (rl lo (f j)))) (fun q => by cases q) (by rw [arrV_size]; exact h2) rfl rfl d fin
  | some v =>
    obtain ⟨cellV, kA, kC, kE, comp, E, -, g1, g2, g3, g4, g5, g6, g7⟩ := okq_store (args := args) hK hH h3
    exact W.aast hx hb hcell (fun q h => by cases h) (fun h => by cases h) g3 g4 rfl g5 ⟨fun q => h2 (Or.inl q), by rw [arrV_size]; exact Nat.not_le.mp fun q => h2 (Or.inr q)⟩ g1 (fun q h => by rw [g2] at h; cases h) g6 g7 rfl rfl d fin
theorem a_new (C : CX G lo cc own ret rm nL0) {ci idx N : Nat} {CN : String} {T : u_T} {ty : Nat → FieldType} (cb : CB ci CN T N ty) (fs : List Vl) (hcl : Cond.classLink own idx CN ∈ gw) (hins : Cond.instantiable CN N ∈ gw) (hini : Cond.initialized CN ∈ gw) (hfs : ∀ j, j < N → defaultValue (ty j) = vp_V (fs.map (vl 0)) j) (hf0 : fs.map (vl 0) = fs.map (vl lo)) (h1 : ce + 1 ≤ rm.cells) (h2 : sl + N ≤ rm.slots) (d : decode cc pc = .ok (.new idx, 3)) (kk : AW G lo (ce + 1) (sl + N) (pc + 3) lv (.ref (lo + h.1) :: st) (hnew h (.inr (.inr (ci, fs))))) : AW G lo ce sl pc lv st h := by
  obtain ⟨p, l, e, R, s, m, args, below, meth, c, Q, dd, nL⟩ := G
  obtain ⟨hx, hb, hr, hml, hown, hts, hlk, hK, hlo, rfl, rfl⟩ := C
  intro ls H locs hlv hH hS
  obtain ⟨hcb, hin, hty, hnm⟩ := cb
  have hKn := hK.1.1 ci _ hcb
  refine W.newcK hx hb hown (hts _ hcl) (hts _ hins) (hts _ hini) rfl d h1 h2 hKn.2.1 rfl fun H1 kC hkC e1 z1 o1 => ?_
  have hz : H.size = lo + h.1 := hH.1
  have hgo := kk ls H1 locs hlv (hH.push z1 o1 ⟨_, hcb, (u_born ty hts hin hKn hkC e1 hty).to (fun j hj => by rw [hfs j hj, hf0])⟩) ⟨Nat.le_trans hS.1 (by omega), fun x q1 q2 => (o1 x (Nat.lt_of_lt_of_le q1 hS.1)).trans (hS.2.1 x q1 q2), hS.2.2⟩
  rw [← hz] at hgo
  exact hgo
theorem a_newa (C : CX G lo cc own ret rm nL0) {n : Int32} {N : Nat} (hn : ¬ n < 0) (hN : n.toNatClampNeg = N) (hby : N * 8 ≤ 536870912) (h1 : ce + 1 ≤ rm.cells) (h2 : sl + N ≤ rm.slots) (d : decode cc pc = .ok (.newarray .int, 2)) (kk : AW G lo (ce + 1) (sl + N) (pc + 2) lv (.ref (lo + h.1) :: st) (hnew h (.inl (0, N, fun _ => 0)))) : AW G lo ce sl pc lv (.int n :: st) h := by
  obtain ⟨p, l, e, R, s, m, args, below, meth, c, Q, dd, nL⟩ := G
  obtain ⟨hx, hb, hr, hml, hown, hts, hlk, hK, hlo, rfl, rfl⟩ := C
  intro ls H locs hlv hH hS
  refine va_newaK (atype := .int) hx hb (hts _ ac_int) rfl d rfl hn hN (by show N * 4 ≤ _; omega) h1 h2 rfl fun H1 cA e1 z1 o1 hAr hNm => ?_
  have hz : H.size = lo + h.1 := hH.1
  have hcA : cA = dd.2.2 0 := Option.some.inj (hNm.symm.trans (hK.1.2 0 _ rfl).2)
  subst hcA
  have hgo := kk ls H1 locs hlv (hH.push z1 o1 e1) ⟨Nat.le_trans hS.1 (by omega), fun x q1 q2 => (o1 x (Nat.lt_of_lt_of_le q1 hS.1)).trans (hS.2.1 x q1 q2), hS.2.2⟩
  rw [← hz] at hgo
  exact hgo
theorem a_newz (C : CX G lo cc own ret rm nL0) {n : Int32} {N : Nat} (hn : ¬ n < 0) (hN : n.toNatClampNeg = N) (hby : N * 8 ≤ 536870912) (h1 : ce + 1 ≤ rm.cells) (h2 : sl + N ≤ rm.slots) (d : decode cc pc = .ok (.newarray .boolean, 2)) (kk : AW G lo (ce + 1) (sl + N) (pc + 2) lv (.ref (lo + h.1) :: st) (hnew h (.inl (1, N, fun _ => 0)))) : AW G lo ce sl pc lv (.int n :: st) h := by
  obtain ⟨p, l, e, R, s, m, args, below, meth, c, Q, dd, nL⟩ := G
  obtain ⟨hx, hb, hr, hml, hown, hts, hlk, hK, hlo, rfl, rfl⟩ := C
  intro ls H locs hlv hH hS
  refine va_newaK (atype := .boolean) hx hb (hts _ ac_boolean) rfl d rfl hn hN (by show N * 1 ≤ _; omega) h1 h2 rfl fun H1 cA e1 z1 o1 hAr hNm => ?_
  have hz : H.size = lo + h.1 := hH.1
  have hcA : cA = dd.2.2 1 := Option.some.inj (hNm.symm.trans (hK.1.2 1 _ rfl).2)
  subst hcA
  have hgo := kk ls H1 locs hlv (hH.push z1 o1 e1) ⟨Nat.le_trans hS.1 (by omega), fun x q1 q2 => (o1 x (Nat.lt_of_lt_of_le q1 hS.1)).trans (hS.2.1 x q1 q2), hS.2.2⟩
  rw [← hz] at hgo
  exact hgo
theorem tys_row {d : DD} {s : State} {cA : ClassId} {t : Nat} {E : String} (hK : KK d s) (ht : (tysL d.2.2)[t]? = some (d.2.2 t, .object E)) (hf : s.vm.findClass ("[" ++ (FieldType.object E).toString) = some cA) : cA = d.2.2 t := by
  obtain ⟨-, kA, comp, -, -, -, k4⟩ := hK.1.2 t _ ht
  exact Option.some.inj (hf.symm.trans k4)
theorem a_newq (C : CX G lo cc own ret rm nL0) {n : Int32} {N t idx : Nat} {E : String} (ht : ∀ dA, (tysL dA)[t]? = some (dA t, .object E)) (hao : ∀ d s, KK d s → va_AO E s) (hcl : Cond.classLink own idx E ∈ gw) (hn : ¬ n < 0) (hN : n.toNatClampNeg = N) (hby : N * 4 ≤ 536870912) (h1 : ce + 1 ≤ rm.cells) (h2 : sl + N ≤ rm.slots) (d : decode cc pc = .ok (.anewarray idx, 3)) (kk : AW G lo (ce + 1) (sl + N) (pc + 3) lv (.ref (lo + h.1) :: st) (hnew h (.inr (.inl (t, N, fun _ => none))))) : AW G lo ce sl pc lv (.int n :: st) h := by
  obtain ⟨p, l, e, R, s, m, args, below, meth, c, Q, dd, nL⟩ := G
  obtain ⟨hx, hb, hr, hml, hown, hts, hlk, hK, hlo, rfl, rfl⟩ := C
  intro ls H locs hlv hH hS
  subst hN
  refine W.anew hx hb hown (hts _ hcl) (va_AO.use (hao _ _ hK)) rfl d rfl hn hby h1 h2 fun cA kA comp f1 f2 f3 f4 => ?_
  have hz : H.size = lo + h.1 := hH.1
  have hcA : cA = dd.2.2 t := tys_row hK (ht _) f1
  subst hcA
  generalize hH1 : H.push ({ cls := dd.2.2 t, slots := Array.replicate n.toNatClampNeg .null, vm := .none } : Cell) = H1
  have z1 : H1.size = H.size + 1 := by rw [← hH1, Array.size_push]
  have e1 : H1[H.size]? = some (arrV (dd.2.2 t) n.toNatClampNeg (fun _ => .null)) := by rw [← hH1, Array.getElem?_push_size, ← arrV_new]
  have o1 : ∀ q : Nat, q < H.size → H1[q]? = H[q]? := fun q hq => by rw [← hH1, Array.getElem?_push, if_neg (Nat.ne_of_lt hq)]
  have hgo := kk ls H1 locs hlv (hH.push z1 o1 e1) ⟨Nat.le_trans hS.1 (by omega), fun x q1 q2 => (o1 x (Nat.lt_of_lt_of_le q1 hS.1)).trans (hS.2.1 x q1 q2), hS.2.2⟩
  rw [← hz] at hgo
  exact hgo
theorem acpy_some {h h' : Hp} {a0 a1 : Nat} {sp dp n : Int32} (e : acpy h a0 sp a1 dp n = some h') : ∃ n0 f n1 g, gA h a0 0 = some (n0, f) ∧ gA h a1 0 = some (n1, g) ∧ ¬ sp < 0 ∧ ¬ dp < 0 ∧ ¬ n < 0 ∧ sp.toNatClampNeg + n.toNatClampNeg ≤ n0 ∧ dp.toNatClampNeg + n.toNatClampNeg ≤ n1 ∧ h' = hup h a1 (.inl (0, n1, va_cpy f g sp.toNatClampNeg dp.toNatClampNeg n.toNatClampNeg)) := by
  unfold acpy at e
  split at e
  · next n0 f n1 g e0 e1 =>
    split at e
    · cases e
    · next q =>
      cases e
      refine ⟨n0, f, n1, g, e0, e1, fun z => q (Or.inl z), fun z => q (Or.inr (Or.inl z)), fun z => q (Or.inr (Or.inr (Or.inl z))), Nat.le_of_not_lt fun z => q (Or.inr (Or.inr (Or.inr (Or.inl z)))), Nat.le_of_not_lt fun z => q (Or.inr (Or.inr (Or.inr (Or.inr z)))), rfl⟩
  · cases e
theorem a_copy (C : CX G lo cc own ret rm nL0) {idx a0 a1 : Nat} {sp dp n : Int32} {h' : Hp} (hl : Cond.methodLink own idx arraycopyName ∈ gw) (hnat : Cond.native arraycopyName ∈ gw) (hstat : Cond.static arraycopyName ∈ gw) (hini : Cond.initialized "java/lang/System" ∈ gw) (hfr : 1 ≤ rm.frames) (hlc : (st.map fun v => v.category).sum + (nativeFrameWords "java/lang/System" "arraycopy" 5 + 11) ≤ rm.locals) (d : decode cc pc = .ok (.invokestatic idx, 3)) (ho : acpy h a0 sp a1 dp n = some h') (kk : AW G lo ce sl (pc + 3) lv st h') : AW G lo ce sl pc lv (.int n :: .int dp :: .ref (lo + a1) :: .int sp :: .ref (lo + a0) :: st) h := by
  obtain ⟨p, l, e, R, s, m, args, below, meth, c, Q, dd, nL⟩ := G
  obtain ⟨hx, hb, hr, hml, hown, hts, hlk, hK, hlo, rfl, rfl⟩ := C
  intro ls H locs hlv hH hS
  obtain ⟨n0, f, n1, g, e0, e1, h1, h2, h3, h4, h5, rfl⟩ := acpy_some ho
  obtain ⟨ha0, hc0'⟩ := gA_some e0
  obtain ⟨ha1, hc1'⟩ := gA_some e1
  have nn : ∀ z : Int32, ¬ z < 0 → z.toInt = (z.toNatClampNeg : Int) := by
    intro z hz
    have hz0 : (0 : Int) ≤ z.toInt := by
      have := Int32.not_lt.mp hz
      simpa using Int32.le_iff_toInt_le.mp this
    show z.toInt = ((z.toInt.toNat : Nat) : Int)
    omega
  intro T hT X
  have hc0 : H[lo + a0]? = some (vp_cell (dd.2.2 0) (n0, .inl f)) := hH.at ha0 hc0'
  have hc1 : H[lo + a1]? = some (vp_cell (dd.2.2 0) (n1, .inl g)) := hH.at ha1 hc1'
  obtain ⟨-, k0, hk0, cm0, hkk0⟩ := (hK.1.2 0 _ rfl).1 n0 (fun j => .int (f j))
  obtain ⟨-, k1, hk1, cm1, hkk1⟩ := (hK.1.2 0 _ rfl).1 n1 (fun j => .int (g j))
  obtain ⟨vm', X', step⟩ := X.arraycopy hx hown (hts _ hl) (hts _ hnat) (hts _ hstat) (hts _ hini) (src := lo + a0) (dst := lo + a1) (cs := vp_cell (dd.2.2 0) (n0, .inl f)) (cd := vp_cell (dd.2.2 0) (n1, .inl g)) (srcPos := sp) (destPos := dp) (n := n) (by rw [hT]; exact hc0) (by rw [hT]; exact hc1)
    (fun _ h => by cases h) (fun _ h => by cases h) (fun h => by cases h) (fun h => by cases h) hk0 hk1 hkk0 hkk1 (by simp [refKind]) h1 h2 h3
    (by rw [nn sp h1, nn n h3]; show ¬ _ > ((arrV (dd.2.2 0) n0 (fun j => .int (f j))).slots.size : Int); rw [arrV_size]; omega)
    (by rw [nn dp h2, nn n h3]; show ¬ _ > ((arrV (dd.2.2 0) n1 (fun j => .int (g j))).slots.size : Int); rw [arrV_size]; omega)
    (fun vm₁ _ i hi => by
      have e : (vp_cell (dd.2.2 0) (n0, .inl f)).slots.getD (sp.toNatClampNeg + i) .null = .int (f (sp.toNatClampNeg + i)) := by
        show (arrV (dd.2.2 0) n0 (fun j => .int (f j))).slots.getD _ _ = _
        rw [Array.getD_eq_getD_getElem?, arrV_read _ _ (by omega)]
        rfl
      refine ⟨?_, ?_⟩
      · rw [e]
        rfl
      · rw [e]
        exact trivial)
    (g := F0 m pc ls (.int n :: .int dp :: .ref (lo + a1) :: .int sp :: .ref (lo + a0) :: st)) rfl (by rw [hml]; exact hlv.1) (rest := st) rfl (by rw [hb]; exact d) hfr (by show 2 * 0 + _ + _ ≤ _; omega)
  have e1 : copied (vp_cell (dd.2.2 0) (n0, .inl f)) (vp_cell (dd.2.2 0) (n1, .inl g)) sp dp n = vp_cell (dd.2.2 0) (n1, .inl (va_cpy f g sp.toNatClampNeg dp.toNatClampNeg n.toNatClampNeg)) := va_copied (fun z => .int z) (dd.2.2 0) (dd.2.2 0) f g h4
  rw [e1] at X' step
  have hl : lo + a1 < H.size := (Array.getElem?_eq_some_iff.mp hc1).1
  have hheap : ((T.setVm vm').setCell (lo + a1) (vp_cell (dd.2.2 0) (n1, .inl (va_cpy f g sp.toNatClampNeg dp.toNatClampNeg n.toNatClampNeg)))).heap = H.setIfInBounds (lo + a1) (vp_cell (dd.2.2 0) (n1, .inl (va_cpy f g sp.toNatClampNeg dp.toNatClampNeg n.toNatClampNeg))) := by rw [← hT]; rfl
  have oq : ∀ q : Nat, q ≠ lo + a1 → (H.setIfInBounds (lo + a1) (vp_cell (dd.2.2 0) (n1, .inl (va_cpy f g sp.toNatClampNeg dp.toNatClampNeg n.toNatClampNeg))))[q]? = H[q]? := fun q hq => by simp [Array.getElem?_setIfInBounds, Ne.symm hq]
  obtain ⟨t, b1, b2⟩ := kk ls _ _ hlv (hH.up (a := a1) (c := .inl (0, n1, va_cpy f g sp.toNatClampNeg dp.toNatClampNeg n.toNatClampNeg)) (by simp) oq (show (H.setIfInBounds (lo + a1) _)[lo + a1]? = some _ by simp [Array.getElem?_setIfInBounds, hl])) ⟨by simp; exact hS.1, fun q g1 g2 => by
      rw [oq q (fun e => g2 (by rw [e]; exact Nat.le_add_right lo a1))]
      exact hS.2.1 q g1 g2, fun q hq => by
      rcases List.mem_append.mp hq with h | h
      · exact hS.2.2 q h
      · obtain ⟨z, -, hz⟩ := List.mem_map.mp h
        rw [← hz]
        exact Nat.le_add_right lo a1⟩ _ hheap X'
  exact ⟨t, step t b1, b2⟩
end Calls1
