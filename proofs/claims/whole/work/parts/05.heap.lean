/-! ROWS OVER THE HEAP -/
/-- a class of the worlds, with its tables -/
def CB (ci : Nat) (CN : String) (T : u_T) (N : Nat) (ty : Nat → FieldType) : Prop := vwCl[ci]? = some (CN, T, N) ∧ (∀ w ∈ u_ws CN T N, w ∈ gw) ∧ (∀ k, k < N → parseFieldDescriptor (T k).2.2.1 = some (ty k)) ∧ (∀ a, a < N → ∀ b, b < N → a ≠ b → (T a).2.1 ≠ (T b).2.1)
theorem cb0 : CB 0 RX0 TX0 4 tyX0 := ⟨rfl, inX0, tyX0_ok, nmX0⟩
theorem cb1 : CB 1 RX1 TX1 4 tyX1 := ⟨rfl, inX1, tyX1_ok, nmX1⟩
theorem cb2 : CB 2 RX3 TX3 9 tyX3 := ⟨rfl, inX3, tyX3_ok, nmX3⟩
theorem cb3 : CB 3 RX4 TX4 4 tyX4 := ⟨rfl, inX4, tyX4_ok, nmX4⟩
theorem cb4 : CB 4 RX5 TX5 4 tyX5 := ⟨rfl, inX5, tyX5_ok, nmX5⟩
theorem cb5 : CB 5 RX6 TX6 2 tyX6 := ⟨rfl, inX6, tyX6_ok, nmX6⟩
theorem cb6 : CB 6 RX7 TX7 5 tyX7 := ⟨rfl, inX7, tyX7_ok, nmX7⟩
theorem cb7 : CB 7 RX8 TX8 3 tyX8 := ⟨rfl, inX8, tyX8_ok, nmX8⟩
theorem cb8 : CB 8 RX9 TX9 4 tyX9 := ⟨rfl, inX9, tyX9_ok, nmX9⟩
theorem cb9 : CB 9 RX10 TX10 11 tyX10 := ⟨rfl, inX10, tyX10_ok, nmX10⟩
theorem cb10 : CB 10 RX11 TX11 16 tyX11 := ⟨rfl, inX11, tyX11_ok, nmX11⟩
theorem cb11 : CB 11 RX12 TX12 32 tyX12 := ⟨rfl, inX12, tyX12_ok, nmX12⟩
/-- every door's class has the fields of TX0 -/
theorem isD_cb {c : Nat} (h : isD c = true) : ∃ CN ty, CB c CN TX0 4 ty := by
  have e1 : TX1 = TX0 := funext fun k => match k with
    | 0 => rfl
    | 1 => rfl
    | 2 => rfl
    | _ + 3 => rfl
  have e4 : TX4 = TX0 := funext fun k => match k with
    | 0 => rfl
    | 1 => rfl
    | 2 => rfl
    | _ + 3 => rfl
  have e5 : TX5 = TX0 := funext fun k => match k with
    | 0 => rfl
    | 1 => rfl
    | 2 => rfl
    | _ + 3 => rfl
  have e9 : TX9 = TX0 := funext fun k => match k with
    | 0 => rfl
    | 1 => rfl
    | 2 => rfl
    | _ + 3 => rfl
  simp only [isD, Bool.or_eq_true, beq_iff_eq] at h
  rcases h with (((h | h) | h) | h) | h <;> subst h
  · exact ⟨_, _, cb0⟩
  · exact ⟨_, _, e1 ▸ cb1⟩
  · exact ⟨_, _, e4 ▸ cb3⟩
  · exact ⟨_, _, e5 ▸ cb4⟩
  · exact ⟨_, _, e9 ▸ cb8⟩
section Heap
variable {G : Gm} {lo ce sl pc : Nat} {lv : List (Nat × Value)} {st : List Value} {h : Hp} {cc : ByteArray} {own : String} {ret : Option FieldType} {rm : Room} {nL0 : Nat}
theorem a_get0 (C : CX G lo cc own ret rm nL0) {a ci idx N : Nat} {fs : List Vl} {v : Vl} {CN ref : String} {T : u_T} {ty : Nat → FieldType} (cb : CB ci CN T N ty) (k : Nat) (hk : k < N) (hl : Cond.fieldLink own idx ref (T k).2.1 (T k).2.2.1 ∈ gw) (hs : ref = (T k).1 ∨ Cond.sameField ref (T k).1 (T k).2.1 (T k).2.2.1 ∈ gw) (d : decode cc pc = .ok (.getfield idx, 3)) (ho : gO h a = some (ci, fs)) (hv : fs[k]? = some v) (kk : AW G lo ce sl (pc + 3) lv (vl lo v :: st) h) : AW G lo ce sl pc lv (.ref (lo + a) :: st) h := by
  obtain ⟨p, l, e, R, s, m, args, below, meth, c, Q, dd, nL⟩ := G
  obtain ⟨hx, hb, hr, hml, hown, hts, hlk, hK, hlo, rfl, rfl⟩ := C
  intro ls H locs hlv hH hS
  obtain ⟨ha, hc⟩ := gO_some ho
  have hP : va_P (dd.1, dd.2.1) vwCl [(lo + a, .inr (ci, fs.map (vl lo)))] H := by
    intro q x hq
    have hz : q < 1 := (List.getElem?_eq_some_iff.mp hq).1
    rw [show q = 0 by omega] at hq
    cases hq
    exact hH.at ha hc
  refine va_get (D := (dd.1, dd.2.1)) (ci := ci) (v := vl lo v) (C := CN) (T := T) (N := N) (fs := fs.map (vl lo)) hx hb hts cb.2.1 hown hK.1 hP 0 rfl cb.1 k hk (hts _ hl) (fun x hx' => ?_) (by rw [List.getElem?_map, hv]; rfl) d (kk ls H locs hlv hH hS)
  rcases hs with q | q
  · rw [q]; exact hx'
  · exact u_same (hts _ q) x hx'
theorem a_getI (C : CX G lo cc own ret rm nL0) {a ci idx N : Nat} {x : Int32} {CN ref : String} {T : u_T} {ty : Nat → FieldType} (cb : CB ci CN T N ty) (k : Nat) (hk : k < N) (hl : Cond.fieldLink own idx ref (T k).2.1 (T k).2.2.1 ∈ gw) (hs : ref = (T k).1) (d : decode cc pc = .ok (.getfield idx, 3)) (ho : gI h a ci k = some x) (kk : AW G lo ce sl (pc + 3) lv (.int x :: st) h) : AW G lo ce sl pc lv (.ref (lo + a) :: st) h := by
  obtain ⟨fs, h1, h2⟩ := gI_some ho
  exact a_get0 C cb k hk hl (Or.inl hs) d h1 h2 kk
theorem a_getN (C : CX G lo cc own ret rm nL0) {a ci idx N : Nat} {x : Nat} {CN ref : String} {T : u_T} {ty : Nat → FieldType} (cb : CB ci CN T N ty) (k : Nat) (hk : k < N) (hl : Cond.fieldLink own idx ref (T k).2.1 (T k).2.2.1 ∈ gw) (hs : ref = (T k).1) (d : decode cc pc = .ok (.getfield idx, 3)) (ho : gN h a ci k = some x) (kk : AW G lo ce sl (pc + 3) lv (.ref (lo + x) :: st) h) : AW G lo ce sl pc lv (.ref (lo + a) :: st) h := by
  obtain ⟨fs, h1, h2⟩ := gN_some ho
  exact a_get0 C cb k hk hl (Or.inl hs) d h1 h2 kk
theorem a_getD (C : CX G lo cc own ret rm nL0) {a idx : Nat} {x : Int32} {ref : String} (k : Nat) (hk : k < 4) (hl : Cond.fieldLink own idx ref (TX0 k).2.1 (TX0 k).2.2.1 ∈ gw) (hs : ref = (TX0 k).1 ∨ Cond.sameField ref (TX0 k).1 (TX0 k).2.1 (TX0 k).2.2.1 ∈ gw) (d : decode cc pc = .ok (.getfield idx, 3)) (ho : gD h a k = some x) (kk : AW G lo ce sl (pc + 3) lv (.int x :: st) h) : AW G lo ce sl pc lv (.ref (lo + a) :: st) h := by
  obtain ⟨c, fs, h1, h2, h3⟩ := gD_some ho
  obtain ⟨CN, ty, cb⟩ := isD_cb h2
  exact a_get0 C cb k hk hl hs d h1 h3 kk
theorem a_put0 (C : CX G lo cc own ret rm nL0) {a ci idx N : Nat} {fs : List Vl} {v : Vl} {CN : String} {T : u_T} {ty : Nat → FieldType} (cb : CB ci CN T N ty) (k : Nat) (hk : k < N) (hl : Cond.fieldLink own idx (T k).1 (T k).2.1 (T k).2.2.1 ∈ gw) (hfin : (T k).2.2.2 = false) {t : FieldType} (hd : parseFieldDescriptor (T k).2.2.1 = some t) (hn : narrow t (vl lo v) = vl lo v) (hfit : fits t (vl lo v) = true) (d : decode cc pc = .ok (.putfield idx, 3)) (ho : gO h a = some (ci, fs)) (hlen : k < fs.length) (kk : AW G lo ce sl (pc + 3) lv st (hup h a (.inr (.inr (ci, fs.set k v))))) : AW G lo ce sl pc lv (vl lo v :: .ref (lo + a) :: st) h := by
  obtain ⟨p, l, e, R, s, m, args, below, meth, c, Q, dd, nL⟩ := G
  obtain ⟨hx, hb, hr, hml, hown, hts, hlk, hK, hlo, rfl, rfl⟩ := C
  intro ls H locs hlv hH hS
  obtain ⟨ha, hc⟩ := gO_some ho
  obtain ⟨hcl, hin, hty, hnm⟩ := cb
  have hap := va_apart (own := own) hts hin ty hty hnm hK.1 hcl
  obtain ⟨r, h1, cell, q1, q2, q3, q4⟩ := hH.at ha hc
  have hr : r = (CN, T, N) := Option.some.inj (h1.symm.trans hcl)
  subst hr
  obtain ⟨hSl, hfc, kC, hkC, hkind⟩ := hK.1.1 ci _ hcl
  obtain ⟨cf, kf, fi, f, hi, hsl⟩ := hSl k hk
  have hlay := hts _ (hin _ (u_in_lay hk))
  unfold u_lay at hlay
  rw [if_neg (by rw [hfin]; decide)] at hlay
  have hst := (u_facts hfc hkC (u_lays hts hin hk) hi).1
  have h6 := u_store hfc hkC hkind hlay hi hd hn hfit
  refine W.putK hx hb (f := f) ⟨hown, hts _ hl, ⟨_, _, _, hi⟩, hst⟩ (by rw [q2]; exact h6) q1 q3 (by rw [hsl]; exact k2_hasslot (q4 k hk)) rfl rfl d fun H' e1 e2 e3 => ?_
  rw [hsl] at e1 ⊢
  refine kk ls H' _ hlv (hH.up e2 e3 ?_) (hS.put e2 e3 (Nat.le_add_right lo a))
  refine ⟨_, hcl, t_OB.to (V := updV (vp_V (fs.map (vl lo))) k (vl lo v)) ⟨_, e1, q2, q3, t_set q4 hap hk _⟩ (fun j _ => ?_)⟩
  rw [vp_updV_set (by rw [List.length_map]; exact hlen), List.map_set]
theorem a_putI (C : CX G lo cc own ret rm nL0) {a ci idx N : Nat} {x : Int32} {CN : String} {T : u_T} {ty : Nat → FieldType} (cb : CB ci CN T N ty) (k : Nat) (hk : k < N) (hl : Cond.fieldLink own idx (T k).1 (T k).2.1 (T k).2.2.1 ∈ gw) (hfin : (T k).2.2.2 = false) (hd : parseFieldDescriptor (T k).2.2.1 = some .int) (d : decode cc pc = .ok (.putfield idx, 3)) {h' : Hp} (ho : pV h a ci k (.inl x) = some h') (kk : AW G lo ce sl (pc + 3) lv st h') : AW G lo ce sl pc lv (.int x :: .ref (lo + a) :: st) h := by
  obtain ⟨fs, h1, h2, rfl⟩ := pV_some ho
  exact a_put0 (v := .inl x) C cb k hk hl hfin hd rfl rfl d h1 h2 kk
theorem a_putF0 (C : CX G lo cc own ret rm nL0) (hini : match G with | (p, l, e, R, s, m, args, below, meth, c, Q, d, nL) => meth.name = "<init>") {a ci idx N : Nat} {fs : List Vl} {v : Vl} {CN : String} {T : u_T} {ty : Nat → FieldType} (cb : CB ci CN T N ty) (k : Nat) (hk : k < N) (hl : Cond.fieldLink own idx (T k).1 (T k).2.1 (T k).2.2.1 ∈ gw) (hfin : (T k).2.2.2 = true) (hdecl : (T k).1 = own) {t : FieldType} (hd : parseFieldDescriptor (T k).2.2.1 = some t) (hn : narrow t (vl lo v) = vl lo v) (hfit : fits t (vl lo v) = true) (d : decode cc pc = .ok (.putfield idx, 3)) (ho : gO h a = some (ci, fs)) (hlen : k < fs.length) (kk : AW G lo ce sl (pc + 3) lv st (hup h a (.inr (.inr (ci, fs.set k v))))) : AW G lo ce sl pc lv (vl lo v :: .ref (lo + a) :: st) h := by
  obtain ⟨p, l, e, R, s, m, args, below, meth, c, Q, dd, nL⟩ := G
  obtain ⟨hx, hb, hr, hml, hown, hts, hlk, hK, hlo, rfl, rfl⟩ := C
  intro ls H locs hlv hH hS
  obtain ⟨ha, hc⟩ := gO_some ho
  obtain ⟨hcl, hin, hty, hnm⟩ := cb
  have hap := va_apart (own := own) hts hin ty hty hnm hK.1 hcl
  obtain ⟨r, h1, cell, q1, q2, q3, q4⟩ := hH.at ha hc
  have hr : r = (CN, T, N) := Option.some.inj (h1.symm.trans hcl)
  subst hr
  obtain ⟨hSl, hfc, kC, hkC, hkind⟩ := hK.1.1 ci _ hcl
  obtain ⟨cf, kf, fi, f, hi, hsl⟩ := hSl k hk
  have hlay := hts _ (hin _ (u_in_lay hk))
  unfold u_lay at hlay
  rw [if_pos hfin] at hlay
  have hst := (u_facts hfc hkC (u_lays hts hin hk) hi).1
  have hcf : m.cls = cf := by
    obtain ⟨_, _, c', _, _, _, -, -, hf', -, -, -, hown2, -⟩ := Cond.laysFinal_spec hlay
    have e1 : c' = cf := by have := hi.symm.trans hf'; simp at this; exact this.1.symm
    rw [hdecl] at hown2
    rw [← e1]; exact Option.some.inj (hown.symm.trans hown2)
  have h6 := u_fits hfc hkC hkind (Or.inr hlay) hi hd hn hfit
  refine W.putFinK hx hb hown (hts _ hl) hi hst hcf hini (by rw [q2]; exact h6) q1 q3 (by rw [hsl]; exact k2_hasslot (q4 k hk)) rfl rfl d fun H' e1 e2 e3 => ?_
  rw [hsl] at e1 ⊢
  refine kk ls H' _ hlv (hH.up e2 e3 ?_) (hS.put e2 e3 (Nat.le_add_right lo a))
  refine ⟨_, hcl, t_OB.to (V := updV (vp_V (fs.map (vl lo))) k (vl lo v)) ⟨_, e1, q2, q3, t_set q4 hap hk _⟩ (fun j _ => ?_)⟩
  rw [vp_updV_set (by rw [List.length_map]; exact hlen), List.map_set]
theorem a_putFI (C : CX G lo cc own ret rm nL0) (hini : match G with | (p, l, e, R, s, m, args, below, meth, c, Q, d, nL) => meth.name = "<init>") {a idx : Nat} {x : Int32} (k : Nat) (hk : k < 4) (hl : Cond.fieldLink own idx (TX0 k).1 (TX0 k).2.1 (TX0 k).2.2.1 ∈ gw) (hfin : (TX0 k).2.2.2 = true) (hdecl : (TX0 k).1 = own) (hd : parseFieldDescriptor (TX0 k).2.2.1 = some .int) (d : decode cc pc = .ok (.putfield idx, 3)) {h' : Hp} (ho : pD h a k (.inl x) = some h') (kk : AW G lo ce sl (pc + 3) lv st h') : AW G lo ce sl pc lv (.int x :: .ref (lo + a) :: st) h := by
  obtain ⟨c, fs, h1, h2, h3, rfl⟩ := pD_some ho
  obtain ⟨CN, ty, cb⟩ := isD_cb h2
  exact a_putF0 (v := .inl x) C hini cb k hk hl hfin hdecl hd rfl rfl d h1 h3 kk
theorem a_putFR (C : CX G lo cc own ret rm nL0) (hini : match G with | (p, l, e, R, s, m, args, below, meth, c, Q, d, nL) => meth.name = "<init>") {a ci idx N x : Nat} {CN : String} {T : u_T} {ty : Nat → FieldType} (cb : CB ci CN T N ty) (k : Nat) (hk : k < N) (hl : Cond.fieldLink own idx (T k).1 (T k).2.1 (T k).2.2.1 ∈ gw) (hfin : (T k).2.2.2 = true) (hdecl : (T k).1 = own) {t : FieldType} (hd : parseFieldDescriptor (T k).2.2.1 = some t) (hn : narrow t (.ref (lo + x)) = .ref (lo + x)) (hfit : fits t (.ref (lo + x)) = true) (d : decode cc pc = .ok (.putfield idx, 3)) {h' : Hp} (ho : pV h a ci k (.inr (some x)) = some h') (kk : AW G lo ce sl (pc + 3) lv st h') : AW G lo ce sl pc lv (.ref (lo + x) :: .ref (lo + a) :: st) h := by
  obtain ⟨fs, h1, h2, rfl⟩ := pV_some ho
  exact a_putF0 (v := .inr (some x)) C hini cb k hk hl hfin hdecl hd hn hfit d h1 h2 kk
theorem a_iald (C : CX G lo cc own ret rm nL0) {a : Nat} {i x : Int32} (d : decode cc pc = .ok (.iaload, 1)) (ho : ald h a 0 i = some x) (kk : AW G lo ce sl (pc + 1) lv (.int x :: st) h) : AW G lo ce sl pc lv (.int i :: .ref (lo + a) :: st) h := by
  obtain ⟨p, l, e, R, s, m, args, below, meth, c, Q, dd, nL⟩ := G
  obtain ⟨hx, hb, hr, hml, hown, hts, hlk, hK, hlo, rfl, rfl⟩ := C
  intro ls H locs hlv hH hS
  obtain ⟨n, f, h1, h2, rfl⟩ := ald_some ho
  obtain ⟨ha, hc⟩ := gA_some h1
  have hP : va_P (dd.1, dd.2.1) vwCl [(lo + a, .inl (dd.2.2 0, n, .inl f))] H := by
    intro q x hq
    have hz : q < 1 := (List.getElem?_eq_some_iff.mp hq).1
    rw [show q = 0 by omega] at hq
    cases hq
    exact hH.at ha hc
  exact va_iald (D := (dd.1, dd.2.1)) hx hb hK.1 hP 0 0 rfl rfl h2 d (kk ls H locs hlv hH hS)
theorem a_zald (C : CX G lo cc own ret rm nL0) {a : Nat} {i x : Int32} (d : decode cc pc = .ok (.baload, 1)) (ho : ald h a 1 i = some x) (kk : AW G lo ce sl (pc + 1) lv (.int x :: st) h) : AW G lo ce sl pc lv (.int i :: .ref (lo + a) :: st) h := by
  obtain ⟨p, l, e, R, s, m, args, below, meth, c, Q, dd, nL⟩ := G
  obtain ⟨hx, hb, hr, hml, hown, hts, hlk, hK, hlo, rfl, rfl⟩ := C
  intro ls H locs hlv hH hS
  obtain ⟨n, f, h1, h2, rfl⟩ := ald_some ho
  obtain ⟨ha, hc⟩ := gA_some h1
  have hP : va_P (dd.1, dd.2.1) vwCl [(lo + a, .inl (dd.2.2 1, n, .inl f))] H := by
    intro q x hq
    have hz : q < 1 := (List.getElem?_eq_some_iff.mp hq).1
    rw [show q = 0 by omega] at hq
    cases hq
    exact hH.at ha hc
  exact va_zald (D := (dd.1, dd.2.1)) hx hb hK.1 hP 0 1 rfl rfl h2 d (kk ls H locs hlv hH hS)
theorem upd_val (f : Nat → Int32) (k : Nat) (x : Int32) : (fun j => Value.int (upd f k x j)) = updV (fun j => .int (f j)) k (.int x) := by
  funext q
  by_cases hq : q = k <;> simp [updV, upd, hq]
theorem a_iast (C : CX G lo cc own ret rm nL0) {a : Nat} {i x : Int32} {h' : Hp} (d : decode cc pc = .ok (.iastore, 1)) (ho : ast h a 0 i x = some h') (kk : AW G lo ce sl (pc + 1) lv st h') : AW G lo ce sl pc lv (.int x :: .int i :: .ref (lo + a) :: st) h := by
  obtain ⟨p, l, e, R, s, m, args, below, meth, c, Q, dd, nL⟩ := G
  obtain ⟨hx, hb, hr, hml, hown, hts, hlk, hK, hlo, rfl, rfl⟩ := C
  intro ls H locs hlv hH hS
  obtain ⟨n, f, h1, h2, rfl⟩ := ast_some ho
  obtain ⟨ha, hc⟩ := gA_some h1
  have hcell : H[lo + a]? = some (arrV (dd.2.2 0) n (fun j => .int (f j))) := hH.at ha hc
  refine W.iast hx hb hcell ((hK.1.2 0 _ rfl).1 n (fun j => .int (f j))) (fun q => by cases q) (by rw [arrV_size]; exact h2) rfl rfl d fun H1 e z oq => ?_
  refine kk ls H1 _ hlv (hH.up z oq ?_) (hS.put z oq (Nat.le_add_right lo a))
  show H1[lo + a]? = some (arrV (dd.2.2 0) n (fun j => .int (upd f i.toNatClampNeg x j)))
  rw [e, arrV_store, upd_val]
theorem a_zast (C : CX G lo cc own ret rm nL0) {a : Nat} {i x : Int32} {h' : Hp} (d : decode cc pc = .ok (.bastore, 1)) (ho : ast h a 1 i (x &&& 1) = some h') (kk : AW G lo ce sl (pc + 1) lv st h') : AW G lo ce sl pc lv (.int x :: .int i :: .ref (lo + a) :: st) h := by
  obtain ⟨p, l, e, R, s, m, args, below, meth, c, Q, dd, nL⟩ := G
  obtain ⟨hx, hb, hr, hml, hown, hts, hlk, hK, hlo, rfl, rfl⟩ := C
  intro ls H locs hlv hH hS
  obtain ⟨n, f, h1, h2, rfl⟩ := ast_some ho
  obtain ⟨ha, hc⟩ := gA_some h1
  have hcell : H[lo + a]? = some (arrV (dd.2.2 1) n (fun j => .int (f j))) := hH.at ha hc
  refine W.zast hx hb hcell ((hK.1.2 1 _ rfl).1 n (fun j => .int (f j))) (fun q => by cases q) (by rw [arrV_size]; exact h2) rfl rfl d fun H1 e z oq => ?_
  refine kk ls H1 _ hlv (hH.up z oq ?_) (hS.put z oq (Nat.le_add_right lo a))
  show H1[lo + a]? = some (arrV (dd.2.2 1) n (fun j => .int (upd f i.toNatClampNeg (x &&& 1) j)))
  rw [e, arrV_store, upd_val]
  rfl
theorem a_aln (C : CX G lo cc own ret rm nL0) {a : Nat} {x : Int32} (d : decode cc pc = .ok (.arraylength, 1)) (ho : aln h a 0 = some x) (kk : AW G lo ce sl (pc + 1) lv (.int x :: st) h) : AW G lo ce sl pc lv (.ref (lo + a) :: st) h := by
  obtain ⟨p, l, e, R, s, m, args, below, meth, c, Q, dd, nL⟩ := G
  obtain ⟨hx, hb, hr, hml, hown, hts, hlk, hK, hlo, rfl, rfl⟩ := C
  intro ls H locs hlv hH hS
  obtain ⟨n, f, h1, h2⟩ := aln_some ho
  obtain ⟨ha, hc⟩ := gA_some h1
  have hP : va_P (dd.1, dd.2.1) vwCl [(lo + a, .inl (dd.2.2 0, n, .inl f))] H := by
    intro q x hq
    have hz : q < 1 := (List.getElem?_eq_some_iff.mp hq).1
    rw [show q = 0 by omega] at hq
    cases hq
    exact hH.at ha hc
  exact va_alen (D := (dd.1, dd.2.1)) hx hb hK.1 hP 0 0 rfl rfl h2 d (kk ls H locs hlv hH hS)
theorem tysL_at {dA : Nat → ClassId} {t : Nat} (ht : t = 2 ∨ t = 3 ∨ t = 4) : ∃ E, (tysL dA)[t]? = some (dA t, .object E) := by
  rcases ht with rfl | rfl | rfl
  · exact ⟨_, rfl⟩
  · exact ⟨_, rfl⟩
  · exact ⟨_, rfl⟩
theorem a_qln (C : CX G lo cc own ret rm nL0) {a t : Nat} {x : Int32} (ht : t = 2 ∨ t = 3 ∨ t = 4) (d : decode cc pc = .ok (.arraylength, 1)) (ho : qln h a t = some x) (kk : AW G lo ce sl (pc + 1) lv (.int x :: st) h) : AW G lo ce sl pc lv (.ref (lo + a) :: st) h := by
  obtain ⟨p, l, e, R, s, m, args, below, meth, c, Q, dd, nL⟩ := G
  obtain ⟨hx, hb, hr, hml, hown, hts, hlk, hK, hlo, rfl, rfl⟩ := C
  intro ls H locs hlv hH hS
  obtain ⟨n, f, h1, h2⟩ := qln_some ho
  obtain ⟨ha, hc⟩ := gQ_some h1
  have hP : va_P (dd.1, dd.2.1) vwCl [(lo + a, .inl (dd.2.2 t, n, .inr (.inr (.inr (.inr (fun k => rl lo (f k)))))))] H := by
    intro q x hq
    have hz : q < 1 := (List.getElem?_eq_some_iff.mp hq).1
    rw [show q = 0 by omega] at hq
    cases hq
    exact hH.at ha hc
  obtain ⟨E, hE⟩ := tysL_at (dA := dd.2.2) ht
  exact va_alen (D := (dd.1, dd.2.1)) hx hb hK.1 hP 0 t rfl hE h2 d (kk ls H locs hlv hH hS)
theorem a_aldq (C : CX G lo cc own ret rm nL0) {a t : Nat} {i : Int32} {r : Option Nat} (ht : t = 2 ∨ t = 3 ∨ t = 4) (d : decode cc pc = .ok (.aaload, 1)) (ho : aldq h a t i = some r) (kk : AW G lo ce sl (pc + 1) lv (va_rf (rl lo r) :: st) h) : AW G lo ce sl pc lv (.int i :: .ref (lo + a) :: st) h := by
  obtain ⟨p, l, e, R, s, m, args, below, meth, c, Q, dd, nL⟩ := G
  obtain ⟨hx, hb, hr, hml, hown, hts, hlk, hK, hlo, rfl, rfl⟩ := C
  intro ls H locs hlv hH hS
  obtain ⟨n, f, h1, h2, rfl⟩ := aldq_some ho
  obtain ⟨ha, hc⟩ := gQ_some h1
  have hP : va_P (dd.1, dd.2.1) vwCl [(lo + a, .inl (dd.2.2 t, n, .inr (.inr (.inr (.inr (fun k => rl lo (f k)))))))] H := by
    intro q x hq
    have hz : q < 1 := (List.getElem?_eq_some_iff.mp hq).1
    rw [show q = 0 by omega] at hq
    cases hq
    exact hH.at ha hc
  obtain ⟨E, hE⟩ := tysL_at (dA := dd.2.2) ht
  exact va_aldq (D := (dd.1, dd.2.1)) (f := fun k => rl lo (f k)) hx hb hK.1 hP 0 t rfl hE h2 d (kk ls H locs hlv hH hS)
theorem a_aldn (C : CX G lo cc own ret rm nL0) {a t x : Nat} {i : Int32} (ht : t = 2 ∨ t = 3 ∨ t = 4) (d : decode cc pc = .ok (.aaload, 1)) (ho : aldn h a t i = some x) (kk : AW G lo ce sl (pc + 1) lv (.ref (lo + x) :: st) h) : AW G lo ce sl pc lv (.int i :: .ref (lo + a) :: st) h := a_aldq C ht d (aldn_some ho) kk
end Heap
