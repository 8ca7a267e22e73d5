/-! THE CALL way -/
theorem itm_snoc (f : Nat → Int32) : ∀ (c a : Nat), itm f a (c + 1) = itm f a c ++ [f (a + c)]
  | 0, a => rfl
  | c + 1, a => by
    rw [itm, itm_snoc f c (a + 1), itm, show a + 1 + c = a + (c + 1) by omega]
    rfl
theorem itm_get {f : Nat → Int32} {p : List Nat} : ∀ {c : Nat}, itm f 0 c = p.map nI → ∀ k, k < c → f k = nI (p.getD k 0) := by
  have key : ∀ (c a : Nat) (p : List Nat), itm f a c = p.map nI → ∀ k, k < c → f (a + k) = nI (p.getD k 0) := by
    intro c
    induction c with
    | zero => intro a p h k hk; omega
    | succ c ih =>
      intro a p h k hk
      cases p with
      | nil => rw [itm] at h; cases h
      | cons x p =>
        rw [itm, List.map_cons] at h
        have h1 := (List.cons.inj h).1
        have h2 := (List.cons.inj h).2
        cases k with
        | zero => rw [Nat.add_zero, h1]; rfl
        | succ k =>
          have q := ih (a + 1) p h2 k (by omega)
          rw [show a + 1 + k = a + (k + 1) by omega] at q
          rw [q]; rfl
  intro c h k hk
  have q := key c 0 p h k hk
  rw [Nat.zero_add] at q
  exact q
theorem wGo_rm {r : Ro} {N : Nat} (h : wf r N) (hN : N ≤ 2000) (xs : List Int32) : (wGo r xs).1.2.1 < 8 := by
  have h1 := WOK_wRun xs (start r) (WOK_start h hN)
  have h2 : (wGo r xs).1.2 = (wRun xs (start r)).1.2 := wTake_op _
  rw [h2]
  have a := h1.2.1
  have b := h1.1.1.2
  omega
section Way
variable {I I' : Nat → Nat → Int32} {D D' : Nat → Nat → Option Nat} {K : Nat → Nat} {n N : Nat} {Z : Nat → Cl} {r : Ro}
/-- what the class's tries of ways may change -/
def FW (I : Nat → Nat → Int32) (D : Nat → Nat → Option Nat) (I' : Nat → Nat → Int32) (D' : Nat → Nat → Option Nat) : Prop := (∀ x, (x < 16 ∨ 23 < x) → x ≠ 29 → (x < 150 ∨ 161 < x) → I' x = I x) ∧ (∀ x, x ≠ 20 → (x < 150 ∨ 161 < x) → D' x = D x)
theorem FW.rf : FW I D I D := ⟨fun _ _ _ _ => rfl, fun _ _ _ => rfl⟩
theorem FW.tr {J : Nat → Nat → Int32} {E : Nat → Nat → Option Nat} (h : FW I D I' D') (g : FW I' D' J E) : FW I D J E := ⟨fun x a b c => (g.1 x a b c).trans (h.1 x a b c), fun x a b => (g.2 x a b).trans (h.2 x a b)⟩
theorem FD.fw (h : FD I D I' D') : FW I D I' D' := ⟨fun x a _ _ => h.1 x a, fun x a _ => h.2 x a⟩
theorem FW.dk (h : FW I D I' D') : DK I K n I' K n := DK.of (fun q hq => h.1 q (by omega) (by omega) (by omega))
theorem FW.ho (h : FW I D I' D') (hc : CH I D K n 9 r) (h1 : r 1 ≤ 8) (h0 : r 0 ≤ 8) : CH I' D' K n 9 r := hc.move h1 h0 (HF.self (h.1 9 (by omega) (by omega) (by omega)) (h.1 10 (by omega) (by omega) (by omega)) (h.1 11 (by omega) (by omega) (by omega)) (h.2 12 (by omega) (by omega))) h.dk
theorem FW.r29 (f : Nat → Int32) : FW I D (va_up I 29 f) D := ⟨fun x _ b _ => va_up_ne _ _ b, fun _ _ _ => rfl⟩
theorem Inv.seen (h : Inv I D K n N) (f : FW I D I' D') (dv : DV D' K n) {J : Nat → Nat → Int32} (g : FM I' J) (hs : J 162 1 = I 162 1) : Inv J D' K n (N + 1) := by
  have q : ∀ x, (x < 16 ∨ 23 < x) → x ≠ 29 → (x < 150 ∨ 161 < x) → x ≠ 162 → x ≠ 168 → x ≠ 171 → x ≠ 172 → J x = I x := fun x a a2 a3 c d e f' => by rw [g.1 x c d e f', f.1 x a a2 a3]
  have q0 : J 0 = I 0 := q 0 (by omega) (by omega) (by omega) (by omega) (by omega) (by omega) (by omega)
  refine h.frame (by omega) ⟨fun x hx => ?_, fun j a b => by rw [q0], by rw [q 2 (by omega) (by omega) (by omega) (by omega) (by omega) (by omega) (by omega)], fun j hj => ?_⟩ (fun x a b c => f.2 x (by omega) (by omega)) (DK.of (fun q' hq => q q' (by omega) (by omega) (by omega) (by omega) (by omega) (by omega) (by omega))) dv ?_
  · unfold obs at hx
    exact q x (by omega) (by omega) (by omega) (by omega) (by omega) (by omega) (by omega)
  · rw [g.2 j (by omega) (by omega) (by omega), f.1 162 (by omega) (by omega) (by omega)]
  · rw [q0, hs]; exact h.2.1.2.2.1
def isS {α : Type} (o : Option α) : Int32 := match o with | some _ => 1 | none => 0
/-- what the class's search leaves -/
def WR (I : Nat → Nat → Int32) (I' : Nat → Nat → Int32) (depth len : Nat) (o : Option (List Nat)) : Prop := (∀ t, t < depth → I' 29 t = I 29 t) ∧ ∀ q, o = some q → itm (I' 29) 0 len = q.map nI
set_option maxRecDepth 100000 in
set_option maxHeartbeats 8000000 in
theorem c_leaf {goal len rm dep : Nat} {p : List Nat} (hw : wf r N) (hN : N ≤ 2000) (hg : goal < 8) (hl : len ≤ 3) (hrm : rm < 8) (hD : DV D K n) (hc : CH I D K n 9 r) (hp : itm (I 29) 0 len = p.map nI) : ∃ I' D', fr_X11_findWay (dep + 1) (enc I D K n Z) 0 (nI rm) (nI goal) (nI len) (nI len) = some (isS (fwW r goal 0 rm p), enc I' D' K n Z) ∧ FW I D I' D' ∧ DV D' K n ∧ WR I I' len len (fwW r goal 0 rm p) := by
  have er : (nI rm = nI goal) = (rm = goal) := z_eq (by omega) (by omega)
  rw [fr_X11_findWay, if_pos (nI_le (Nat.le_refl _) (by omega)), fwW]
  by_cases a : rm = goal
  · obtain ⟨I1, D1, a1, a2, a3, a4⟩ := c_foretell (I := I) (D := D) (K := K) (n := n) (Z := Z) s_29 (by decide) (by decide) hD hc hw hN (i := 0) (c := len) (by omega) (by omega)
    have a1 : f_X11_foretell (enc I D K n Z) 0 29 (0 : Int32) (nI len) = some (enc I1 D1 K n Z) := a1
    rw [hp] at a2
    have hgf : (wGo r (p.map nI)).2.1 < 2 ^ 31 := wGo_f _
    have ez : (nI (wGo r (p.map nI)).2.1 = (0 : Int32)) = ((wGo r (p.map nI)).2.1 = 0) := z_eq hgf (by decide)
    have w10 := a2.2.2.2.2.2.2.1
    have e29 : I1 29 = I 29 := a3.1 29 (by omega)
    refine ⟨I1, D1, ?_, a3.fw, a4, fun t _ => by rw [e29], fun q hq => ?_⟩
    · simp only [er, if_pos a, r0_11, bA_s, c0, a1, r0_5, g16_10, w10, ez]
      by_cases e : (wGo r (p.map nI)).2.1 = 0
      · simp only [if_pos e, bA_s, bz1, a, true_and, if_true]; rfl
      · simp only [if_neg e, bA_s, bz0]
        rw [if_neg (fun z => e z.2)]; rfl
    · by_cases e : (wGo r (p.map nI)).2.1 = 0
      · rw [if_pos ⟨a, e⟩] at hq
        cases hq
        rw [e29]; exact hp
      · rw [if_neg (fun z => e z.2)] at hq; cases hq
  · refine ⟨I, D, ?_, FW.rf, hD, fun _ _ => rfl, fun q hq => ?_⟩
    · simp only [er, if_neg a, a, false_and, if_false]; rfl
    · rw [if_neg (fun z => a z.1)] at hq; cases hq
theorem isS_s {α : Type} (x : α) : isS (some x) = 1 := rfl
theorem isS_n {α : Type} : isS (none : Option α) = 0 := rfl
set_option maxRecDepth 100000 in
set_option maxHeartbeats 8000000 in
theorem c_find {goal len : Nat} (hw : wf r N) (hN : N ≤ 2000) (hg : goal < 8) (hl : len ≤ 3) : ∀ (m dep depth rm : Nat) (p : List Nat) (I : Nat → Nat → Int32) (D : Nat → Nat → Option Nat), depth + m = len → m < dep → rm < 8 → DV D K n → CH I D K n 9 r → itm (I 29) 0 depth = p.map nI → ∃ I' D', fr_X11_findWay dep (enc I D K n Z) 0 (nI rm) (nI goal) (nI depth) (nI len) = some (isS (fwW r goal m rm p), enc I' D' K n Z) ∧ FW I D I' D' ∧ DV D' K n ∧ WR I I' depth len (fwW r goal m rm p) := by
  intro m
  induction m with
  | zero =>
    intro dep depth rm p I D hd hm hrm hD hc hp
    obtain ⟨f, rfl⟩ : ∃ f, dep = f + 1 := ⟨dep - 1, by omega⟩
    have e : depth = len := by omega
    subst e
    exact c_leaf hw hN hg hl hrm hD hc hp
  | succ m ih =>
    intro dep depth rm p I D hd hm hrm hD hc hp
    obtain ⟨dep', rfl⟩ : ∃ f, dep = f + 1 := ⟨dep - 1, by omega⟩
    have r08 := hw.le8.2
    have r18 := hw.le8.1
    have loop : ∀ (c fuel j : Nat) (I : Nat → Nat → Int32) (D : Nat → Nat → Option Nat), j + c = r 0 → c < fuel → DV D K n → CH I D K n 9 r → itm (I 29) 0 depth = p.map nI → ∃ I' D', f_X11_findWay_L51 (fr_X11_findWay dep') (fun y78 h77 => some ((0 : Int32), h77)) 0 (nI rm) (nI goal) (nI depth) (nI len) fuel (enc I D K n Z) (nI j) = some (isS (srch (fun k => if rm = r (15 + 5 * k) ∨ rm = r (16 + 5 * k) then fwW r goal m (beyW r k rm) (p ++ [k]) else none) c j), enc I' D' K n Z) ∧ FW I D I' D' ∧ DV D' K n ∧ WR I I' depth len (srch (fun k => if rm = r (15 + 5 * k) ∨ rm = r (16 + 5 * k) then fwW r goal m (beyW r k rm) (p ++ [k]) else none) c j) := by
      intro c
      induction c with
      | zero =>
        intro fuel j I D hj hf hD hc hp
        obtain ⟨f, rfl⟩ : ∃ f, fuel = f + 1 := ⟨fuel - 1, by omega⟩
        have e : j = r 0 := by omega
        subst e
        refine ⟨I, D, ?_, FW.rf, hD, fun _ _ => rfl, fun q hq => by cases hq⟩
        rw [f_X11_findWay_L51]
        simp only [r0_3, bA_s, g9_4, hc.1.2.1, if_pos (nI_le (Nat.le_refl (r 0)) (show r 0 < 2 ^ 31 by omega))]
        rfl
      | succ c ihc =>
        intro fuel j I D hj hf hD hc hp
        obtain ⟨f, rfl⟩ : ∃ f, fuel = f + 1 := ⟨fuel - 1, by omega⟩
        have hjr : j < r 0 := by omega
        obtain ⟨q, hq1, hq2⟩ := hc.2.2.2 j hjr
        have u := hw.2.2.2.2.2.2 j hjr
        have nle : ¬ nI (r 0) ≤ nI j := nI_ge hjr (by omega)
        have ld := d_leads (D := D) (Z := Z) hq2 rm (by omega) (by omega) (by omega)
        by_cases a : rm = r (15 + 5 * j) ∨ rm = r (16 + 5 * j)
        · rw [if_pos a] at ld
          have ea := ast_n (I := I) (D := D) (K := K) (n := n) (Z := Z) s_29 depth (nI j) (by omega) (by decide)
          generalize hI1 : va_up I 29 (upd (I 29) depth (nI j)) = I1 at ea
          have fw1 : FW I D I1 D := by rw [← hI1]; exact FW.r29 _
          have hq3 := hq2.more (fw1.dk (K := K) (n := n))
          have db := d_beyond (D := D) (Z := Z) hq3 rm (by omega) (by omega)
          have e29 : ∀ t, t < depth → I1 29 t = I 29 t := fun t ht => by rw [← hI1, va_up_self, pk_un (by omega)]
          have pre : itm (I1 29) 0 depth = p.map nI := by
            rw [← hp]; exact itm_eq depth 0 0 (fun t ht => by rw [Nat.zero_add]; exact e29 t ht)
          have pre2 : itm (I1 29) 0 (depth + 1) = (p ++ [j]).map nI := by
            rw [itm_snoc, pre, Nat.zero_add, ← hI1, va_up_self, pk_us, List.map_append]; rfl
          have hc1 := fw1.ho hc r18 r08
          have hb8 : beyW r j rm < 8 := by unfold beyW; split <;> omega
          obtain ⟨I2, D2, g1, g2, g3, g4⟩ := ih dep' (depth + 1) (beyW r j rm) (p ++ [j]) I1 D (by omega) (by omega) hb8 hD hc1 pre2
          have db : v_X2_beyond (K q) (enc I1 D K n Z) q (nI rm) = some (nI (beyW r j rm), enc I1 D K n Z) := db
          cases hs : fwW r goal m (beyW r j rm) (p ++ [j]) with
          | some x =>
            rw [hs] at g1 g4
            have es : srch (fun k => if rm = r (15 + 5 * k) ∨ rm = r (16 + 5 * k) then fwW r goal m (beyW r k rm) (p ++ [k]) else none) (c + 1) j = some x := by
              rw [srch, if_pos a, hs]
            rw [es]
            refine ⟨I2, D2, ?_, fw1.tr g2, g3, fun t ht => by rw [g4.1 t (by omega), e29 t ht], g4.2⟩
            rw [f_X11_findWay_L51]
            simp only [r0_3, bA_s, g9_4, hc.1.2.1, if_neg nle, c9, c_doorAt_in h9 r08 hc.1.2.1 hjr, b2_s, hq1, gC_e hq2.1, ld, if_neg one0, r0_11, ea, gC_e hq3.1, db, c0, z_i2, g1, isS_s]
          | none =>
            rw [hs] at g1 g4
            have es : srch (fun k => if rm = r (15 + 5 * k) ∨ rm = r (16 + 5 * k) then fwW r goal m (beyW r k rm) (p ++ [k]) else none) (c + 1) j = srch (fun k => if rm = r (15 + 5 * k) ∨ rm = r (16 + 5 * k) then fwW r goal m (beyW r k rm) (p ++ [k]) else none) c (j + 1) := by
              rw [srch, if_pos a, hs]
            rw [es]
            have fw2 := fw1.tr g2
            have pr2 : ∀ t, t < depth → I2 29 t = I 29 t := fun t ht => by rw [g4.1 t (by omega), e29 t ht]
            obtain ⟨I3, D3, k1, k2, k3, k4⟩ := ihc f (j + 1) I2 D2 (by omega) (by omega) g3 (fw2.ho hc r18 r08) (by rw [← hp]; exact itm_eq depth 0 0 (fun t ht => by rw [Nat.zero_add]; exact pr2 t ht))
            refine ⟨I3, D3, ?_, fw2.tr k2, k3, fun t ht => by rw [k4.1 t ht, pr2 t ht], k4.2⟩
            rw [f_X11_findWay_L51]
            simp only [r0_3, bA_s, g9_4, hc.1.2.1, if_neg nle, c9, c_doorAt_in h9 r08 hc.1.2.1 hjr, b2_s, hq1, gC_e hq2.1, ld, if_neg one0, r0_11, ea, gC_e hq3.1, db, c0, z_i2, g1, isS_n, if_true]
            exact k1
        · rw [if_neg a] at ld
          have es : srch (fun k => if rm = r (15 + 5 * k) ∨ rm = r (16 + 5 * k) then fwW r goal m (beyW r k rm) (p ++ [k]) else none) (c + 1) j = srch (fun k => if rm = r (15 + 5 * k) ∨ rm = r (16 + 5 * k) then fwW r goal m (beyW r k rm) (p ++ [k]) else none) c (j + 1) := by
            rw [srch, if_neg a]
          rw [es]
          obtain ⟨I3, D3, k1, k2, k3, k4⟩ := ihc f (j + 1) I D (by omega) (by omega) hD hc hp
          refine ⟨I3, D3, ?_, k2, k3, k4⟩
          rw [f_X11_findWay_L51]
          simp only [r0_3, bA_s, g9_4, hc.1.2.1, if_neg nle, c9, c_doorAt_in h9 r08 hc.1.2.1 hjr, b2_s, hq1, gC_e hq2.1, ld, if_true, z_i2]
          exact k1
    obtain ⟨I', D', l1, l2, l3, l4⟩ := loop (r 0) 2000 0 I D (by omega) (by omega) hD hc hp
    have l1 : f_X11_findWay_L51 (fr_X11_findWay dep') (fun y78 h77 => some ((0 : Int32), h77)) 0 (nI rm) (nI goal) (nI depth) (nI len) 2000 (enc I D K n Z) (0 : Int32) = _ := l1
    refine ⟨I', D', ?_, l2, l3, l4⟩
    rw [fr_X11_findWay, if_neg (nI_ge (show depth < len by omega) (by omega))]
    simp only [r0_11, bA_s, aln_e s_29, if_pos (nI_lt (show depth < 3 by omega) (by decide)), l1]
    rfl
end Way
