section Turns2
variable {I : Nat → Nat → Int32} {D : Nat → Nat → Option Nat} {K : Nat → Nat} {n N : Nat} {Z : Nat → Cl} {r : Ro}
theorem wTake_r0 (p : WS × Nat) : (wTake p).1.1 0 = p.1.1 0 := by
  unfold wTake
  split
  · split
    · rfl
    · show uN (uN p.1.1 (6 + p.1.2.1) 0) 5 (p.1.1 5 + p.1.1 (6 + p.1.2.1)) 0 = p.1.1 0
      rw [uN_n _ (by omega), uN_n _ (by omega)]
  · rfl
theorem mvH_0 {r : Ro} (h8 : r 0 ≤ 8) (k : Nat) : mvH r k 0 = r 0 := by
  unfold mvH
  by_cases hk : k < r 0
  · rw [if_pos hk, wGo, wTake_r0]
    have q := (jn_pass (s := start r) ⟨rfl, fun _ => ⟨rfl, rfl⟩⟩ hk h8).1.1
    rw [wRun]
    split
    · exact q
    · exact q
  · rw [if_neg hk]
theorem m_stepT {J : Nat → Nat → Int32} {q : Ro} (hM : MH (J 166) r) (hq : MH (J 168) q) (hw : wf q N) (hN : N ≤ 2000) (h0 : q 0 = r 0) {s : Nat} (hs : s ≤ 8) : ∃ J1 J', ast (enc J D K n Z) 171 0 (0 : Int32) (nI s) = some (enc J1 D K n Z) ∧ ald (enc J1 D K n Z) 166 0 (0 : Int32) = some (nI (r 0)) ∧ (if nI (r 0) ≤ nI s then some ((0 : Int32), enc J1 D K n Z) else b2 (f_X12_goOut (enc J1 D K n Z) 162 168 (1 : Int32)) fun r33 h31 => some (r33, h31)) = some (iI (mvW q s), enc J' D K n Z) ∧ MH (J' 168) (mvH q s) ∧ J' 166 = J 166 ∧ FM J J' ∧ J' 162 1 = J 162 1 := by
  have h8 : r 0 ≤ 8 := by rw [← h0]; exact hw.le8.2
  have ea := ast_n (I := J) (D := D) (K := K) (n := n) (Z := Z) s_171 0 (nI s) (by decide) (by decide)
  generalize hJ1 : va_up J 171 (upd (J 171) 0 (nI s)) = J1 at ea
  have e1 : ∀ x, x ≠ 171 → J1 x = J x := fun x hx => by rw [← hJ1, va_up_ne _ _ hx]
  have f1 : FM J J1 := ⟨fun x a b c d => e1 x c, fun j a b c => by rw [e1 162 (by decide)]⟩
  have l0 : ald (enc J1 D K n Z) 166 0 (0 : Int32) = some (nI (r 0)) := by
    have z := ald_n (I := J1) (D := D) (K := K) (n := n) (Z := Z) s_166 0 (by decide) (by decide)
    rw [e1 166 (by decide), hM 0 (by decide)] at z
    exact z
  have le : (nI (r 0) ≤ nI s) = (r 0 ≤ s) := z_le (by omega) (by omega)
  by_cases a : r 0 ≤ s
  · refine ⟨J1, J1, ea, l0, ?_, ?_, e1 166 (by decide), f1, by rw [e1 162 (by decide)]⟩
    · rw [if_pos (le.mpr a), mvW, if_neg (by omega)]; rfl
    · rw [mvH, if_neg (by omega), e1 168 (by decide)]; exact hq
  · have hq1 : MH (J1 168) q := by rw [e1 168 (by decide)]; exact hq
    obtain ⟨J3, d1, d2, d3, d4, d5, d6⟩ := m_gd (I := J1) (D := D) (K := K) (n := n) (Z := Z) hq1 hw hN (c := 1) (by decide)
    have ei : itm (J1 171) 0 1 = [nI s] := by
      show [J1 171 0] = _
      rw [← hJ1, va_up_self, pk_us]
    rw [ei] at d1 d2 d3
    have d1 : f_X12_goOut (enc J1 D K n Z) 162 168 (1 : Int32) = some (nI (wGo q [nI s]).2.2, enc J3 D K n Z) := d1
    refine ⟨J1, J3, ea, l0, ?_, ?_, by rw [d4.1 166 (by decide) (by decide) (by decide) (by decide), e1 166 (by decide)], f1.trans d4, by rw [d6, e1 162 (by decide)]⟩
    · rw [if_neg (fun z => a (le.mp z)), d1, b2_s, mvW, if_pos (show s < q 0 by omega), iI_nI]
    · rw [mvH, if_pos (show s < q 0 by omega)]; exact d2
theorem m_after_0 {a b c W x d0 : Int32} {J0 A1 A2 : Nat → Nat → Int32} (a1 : ast (enc J0 D K n Z) 171 0 (0 : Int32) a = some (enc A1 D K n Z)) (a2 : ald (enc A1 D K n Z) 166 0 (0 : Int32) = some d0) (a3 : (if d0 ≤ a then some ((0 : Int32), enc A1 D K n Z) else b2 (f_X12_goOut (enc A1 D K n Z) 162 168 (1 : Int32)) fun r33 h31 => some (r33, h31)) = some (W, enc A2 D K n Z)) (f : Nat) : f_X12_afterTurns_L10 (fun y45 y46 h44 => some (y45, h44)) 162 a b c (f + 1) (enc J0 D K n Z) x (nI 0) = f_X12_afterTurns_L10 (fun y45 y46 h44 => some (y45, h44)) 162 a b c f (enc A2 D K n Z) (x + W) (nI 1) := by
  rw [f_X12_afterTurns_L10, if_neg (show ¬ (3 : Int32) ≤ nI 0 by decide), if_pos (show nI 0 = (0 : Int32) by decide), bA_s, r162_19, bA_s, a1, bA_s, r162_5, bA_s, a2, bA_s, r162_7, bA_s, c162, bA_s, a3, b2_s, if_neg (show ¬ nI 0 = (1 : Int32) by decide), bA_s, z_i2]
theorem m_after_1 {a b c W x d0 : Int32} {J0 A1 A2 : Nat → Nat → Int32} (a1 : ast (enc J0 D K n Z) 171 0 (0 : Int32) b = some (enc A1 D K n Z)) (a2 : ald (enc A1 D K n Z) 166 0 (0 : Int32) = some d0) (a3 : (if d0 ≤ b then some ((0 : Int32), enc A1 D K n Z) else b2 (f_X12_goOut (enc A1 D K n Z) 162 168 (1 : Int32)) fun r33 h31 => some (r33, h31)) = some (W, enc A2 D K n Z)) (f : Nat) : f_X12_afterTurns_L10 (fun y45 y46 h44 => some (y45, h44)) 162 a b c (f + 1) (enc J0 D K n Z) x (nI 1) = f_X12_afterTurns_L10 (fun y45 y46 h44 => some (y45, h44)) 162 a b c f (enc A2 D K n Z) (x + -W) (nI 2) := by
  rw [f_X12_afterTurns_L10, if_neg (show ¬ (3 : Int32) ≤ nI 1 by decide), if_neg (show ¬ nI 1 = (0 : Int32) by decide), if_pos (show nI 1 = (1 : Int32) by decide), bA_s, r162_19, bA_s, a1, bA_s, r162_5, bA_s, a2, bA_s, r162_7, bA_s, c162, bA_s, a3, b2_s, if_pos (show nI 1 = (1 : Int32) by decide), bA_s, z_i2]
theorem m_after_2 {a b c W x d0 : Int32} {J0 A1 A2 : Nat → Nat → Int32} (a1 : ast (enc J0 D K n Z) 171 0 (0 : Int32) c = some (enc A1 D K n Z)) (a2 : ald (enc A1 D K n Z) 166 0 (0 : Int32) = some d0) (a3 : (if d0 ≤ c then some ((0 : Int32), enc A1 D K n Z) else b2 (f_X12_goOut (enc A1 D K n Z) 162 168 (1 : Int32)) fun r33 h31 => some (r33, h31)) = some (W, enc A2 D K n Z)) (f : Nat) : f_X12_afterTurns_L10 (fun y45 y46 h44 => some (y45, h44)) 162 a b c (f + 1) (enc J0 D K n Z) x (nI 2) = f_X12_afterTurns_L10 (fun y45 y46 h44 => some (y45, h44)) 162 a b c f (enc A2 D K n Z) (x + W) (nI 3) := by
  rw [f_X12_afterTurns_L10, if_neg (show ¬ (3 : Int32) ≤ nI 2 by decide), if_neg (show ¬ nI 2 = (0 : Int32) by decide), if_neg (show ¬ nI 2 = (1 : Int32) by decide), bA_s, r162_19, bA_s, a1, bA_s, r162_5, bA_s, a2, bA_s, r162_7, bA_s, c162, bA_s, a3, b2_s, if_neg (show ¬ nI 2 = (1 : Int32) by decide), bA_s, z_i2]
theorem m_after_3 {a b c x : Int32} {h : Hp} (f : Nat) : f_X12_afterTurns_L10 (fun y45 y46 h44 => some (y45, h44)) 162 a b c (f + 1) h x (nI 3) = some (x, h) := by
  rw [f_X12_afterTurns_L10, if_pos (show (3 : Int32) ≤ nI 3 by decide)]
theorem iI_three (x y z : Int) : (0 : Int32) + iI x + -iI y + iI z = iI (x + -y + z) := by
  rw [show (0 : Int32) = iI 0 by decide, iI_neg, iI_add, iI_add, iI_add, Int.zero_add]
theorem m_after {J : Nat → Nat → Int32} (hM : MH (J 166) r) (hw : wf r N) (hN : N + 3 ≤ 2000) {a b c : Nat} (ha : a ≤ 8) (hb : b ≤ 8) (hc : c ≤ 8) : ∃ J', f_X12_afterTurns (enc J D K n Z) 162 (nI a) (nI b) (nI c) = some (iI (mvW r a + -mvW (mvH r a) b + mvW (mvH (mvH r a) b) c), enc J' D K n Z) ∧ FM J J' ∧ J' 162 1 = J 162 1 := by
  have h8 := hw.le8.2
  obtain ⟨J0, e1, e2, e3⟩ := m_ld (D := D) (K := K) (n := n) (Z := Z) hM
  have w1 := mvH_wf hw (by omega) a
  have w2 := mvH_wf w1 (by omega) b
  have q1 : mvH r a 0 = r 0 := mvH_0 h8 a
  have q2 : mvH (mvH r a) b 0 = r 0 := by rw [mvH_0 (by rw [q1]; exact h8) b]; exact q1
  have hM0 : MH (J0 166) r := by rw [e3 166 (by decide)]; exact hM
  obtain ⟨A1, A2, a1, a2, a3, a4, a5, a6, a7⟩ := m_stepT (D := D) (K := K) (n := n) (Z := Z) hM0 e2 hw (by omega) rfl ha
  have hM1 : MH (A2 166) r := by rw [a5]; exact hM0
  obtain ⟨B1, B2, b1, b2', b3', b4', b5', b6, b7⟩ := m_stepT (D := D) (K := K) (n := n) (Z := Z) hM1 a4 w1 (by omega) q1 hb
  have hM2 : MH (B2 166) r := by rw [b5']; exact hM1
  obtain ⟨C1, C2, c1, c2', c3, c4', c5, c6, c7⟩ := m_stepT (D := D) (K := K) (n := n) (Z := Z) hM2 b4' w2 (by omega) q2 hc
  have f0 := FM.lay e3
  refine ⟨C2, ?_, f0.trans (a6.trans (b6.trans c6)), by rw [c7, b7, a7, e3 162 (by decide)]⟩
  rw [← iI_three]
  have fu : ∃ f, 2000 = f + 1 + 1 + 1 + 1 := ⟨1996, rfl⟩
  obtain ⟨f, hf⟩ := fu
  rw [f_X12_afterTurns, c162, bA_s, e1, bA_s, hf, show (0 : Int32) = nI 0 by decide, m_after_0 a1 a2 a3, m_after_1 b1 b2' b3', m_after_2 c1 c2' c3, m_after_3]
/-- a level: what its steps come to, at best -/
theorem lvl {b : Bool} {q : Ro} {m d : Nat} {X v : Int} (h0 : q 0 = d) {lo : Nat} (hlo : lo = if m = 0 then d else 0) (h : isB b (fun k => X + ((if b = true then mvW q k else -mvW q k) + valT (m - 1) (!b) (mvH q k))) lo d v) : v = X + valT m b q := by
  subst h0
  cases m with
  | zero =>
    rw [if_pos rfl] at hlo
    subst hlo
    obtain ⟨⟨k, k1, k2, k3⟩, _⟩ := h
    have e : k = q 0 := by omega
    subst e
    rw [k3]
    show X + ((if b = true then mvW q (q 0) else -mvW q (q 0)) + valT (0 - 1) (!b) (mvH q (q 0))) = X + valT 0 b q
    rw [(mv_none q).1, (mv_none q).2]
    show X + ((if b = true then 0 else -0) + valT 0 (!b) q) = X + valT 0 b q
    rw [valT, valT]
    split <;> omega
  | succ m =>
    rw [if_neg (by omega)] at hlo
    subst hlo
    exact h.uniq ((valT_is m b q).add X)
theorem top_is {f : Nat → Int} {c lo : Nat} (hf : ∀ k, -1000 ≤ f k ∧ f k ≤ 1000) : isB true f lo (lo + c) (foldB true f (c + 1) lo (-1000000)) := by
  obtain ⟨h1, h2, h3⟩ := foldB_is true f (c + 1) lo (-1000000)
  refine ⟨?_, fun k a b => h3 k a (by omega)⟩
  rcases h1 with h1 | ⟨k, k1, k2, k3⟩
  · have q := h3 lo (Nat.le_refl _) (by omega)
    unfold leB at q
    rw [if_pos rfl, h1] at q
    have := (hf lo).1
    omega
  · exact ⟨k, k1, by omega, k3⟩
theorem low_is {f : Nat → Int} {c lo : Nat} : isB false f lo (lo + c) (foldB false f c (lo + 1) (f lo)) := by
  obtain ⟨h1, h2, h3⟩ := foldB_is false f c (lo + 1) (f lo)
  refine ⟨?_, fun k a b => ?_⟩
  · rcases h1 with h1 | ⟨k, k1, k2, k3⟩
    · exact ⟨lo, Nat.le_refl _, by omega, h1⟩
    · exact ⟨k, by omega, by omega, k3⟩
  · by_cases e : k = lo
    · subst e; exact h2
    · exact h3 k (by omega) (by omega)
theorem pick_t (v y : Int) : pick true v y = if y ≤ v then v else y := by
  unfold pick
  rw [if_pos rfl]
  by_cases h : y ≤ v
  · rw [if_pos h, if_neg (by omega)]
  · rw [if_neg h, if_pos (by omega)]
theorem pick_f (v y : Int) : pick false v y = if v ≤ y then v else y := by
  unfold pick
  rw [if_neg (by decide)]
  by_cases h : v ≤ y
  · rw [if_pos h, if_neg (by omega)]
  · rw [if_neg h, if_pos (by omega)]
def TF (J J' : Nat → Nat → Int32) : Prop := FM J J' ∧ J' 162 1 = J 162 1
theorem TF.rf (J : Nat → Nat → Int32) : TF J J := ⟨FM.rfl', rfl⟩
theorem TF.tr {J J' L : Nat → Nat → Int32} (h : TF J J') (g : TF J' L) : TF J L := ⟨h.1.trans g.1, g.2.trans h.2⟩
theorem TF.row {J J' : Nat → Nat → Int32} (h : TF J J') : J' 166 = J 166 := h.1.1 166 (by decide) (by decide) (by decide) (by decide)
theorem m_L95 {β : Type} (kk : Int32 → Int32 → Hp → Option β) (x1 x3 x5 : Int32) (hw : wf r N) (hN : N + 3 ≤ 2000) {a b : Nat} (ha : a ≤ 8) (hb : b ≤ 8) : ∀ (c fuel j : Nat) (J : Nat → Nat → Int32) (v : Int), j + c = r 0 + 1 → c < fuel → MH (J 166) r → (-1000000 ≤ v ∧ v ≤ 1000) → ∃ J', f_X12_byTurns_L95 kk 162 x1 (nI (r 0)) x3 (nI a) x5 (nI b) fuel (enc J D K n Z) (iI v) (nI j) = kk (iI (foldB true (fun c => mvW r a + -mvW (mvH r a) b + mvW (mvH (mvH r a) b) c) c j v)) (nI (r 0 + 1)) (enc J' D K n Z) ∧ TF J J' := by
  have h8 := hw.le8.2
  intro c
  induction c with
  | zero =>
    intro fuel j J v hj hf hM hv
    obtain ⟨f, rfl⟩ : ∃ f, fuel = f + 1 := ⟨fuel - 1, by omega⟩
    have e : j = r 0 + 1 := by omega
    subst e
    exact ⟨J, by rw [f_X12_byTurns_L95, if_pos (nI_lt (by omega) (by omega))]; rfl, TF.rf J⟩
  | succ c ih =>
    intro fuel j J v hj hf hM hv
    obtain ⟨f, rfl⟩ : ∃ f, fuel = f + 1 := ⟨fuel - 1, by omega⟩
    obtain ⟨J1, g1, g2, g3⟩ := m_after (D := D) (K := K) (n := n) (Z := Z) hM hw hN ha hb (show j ≤ 8 by omega)
    have w0 := mvW_b hw (by omega) a
    have w1 := mvW_b (mvH_wf hw (by omega) a) (by omega) b
    have w2 := mvW_b (mvH_wf (mvH_wf hw (by omega) a) (by omega) b) (by omega) j
    generalize hy : mvW r a + -mvW (mvH r a) b + mvW (mvH (mvH r a) b) j = y at g1
    have tf : TF J J1 := ⟨g2, g3⟩
    obtain ⟨J2, k1, k2⟩ := ih f (j + 1) J1 (pick true v y) (by omega) (by omega) (by rw [tf.row]; exact hM) (by rcases pick_or true v y with e | e <;> rw [e] <;> omega)
    refine ⟨J2, ?_, tf.tr k2⟩
    have le : (iI y ≤ iI v) = (y ≤ v) := iI_le (by unfold sm; omega) (by unfold sm; omega)
    rw [f_X12_byTurns_L95, if_neg (nI_nlt (show j ≤ r 0 by omega) (by omega)), foldB]
    simp only [hy]
    rw [← k1]
    simp only [c162, bA_s, g1, b2_s, le, z_i2]
    rw [pick_t]
    by_cases q : y ≤ v
    · rw [if_pos q, if_pos q, bA_s]
    · rw [if_neg q, if_neg q, bA_s]
end Turns2
