/-! THE CALL drawn -/
def dnR (r : Ro) (v : Nat) : Ro := if v % 3 = 0 ∧ r (6 + v % r 1) = 0 then uN r (6 + v % r 1) 5 else r
def dnG (r : Ro) (v : Nat) : WS × Nat × Nat := wGo (dnR r v) [nI (v / 8 % r 0), nI (v / 64 % r 0)]
def dnL : Nat → Ro → Nat → Nat → Nat → Nat × Nat
  | 0, _, _, t, w => (t, w)
  | c + 1, r, v, t, w => dnL c (dnG r (v * 16807 % 2147483647)).1.1 (v * 16807 % 2147483647) (t + (dnG r (v * 16807 % 2147483647)).2.2) (if (dnG r (v * 16807 % 2147483647)).2.1 = 0 then w + 1 else w)
theorem lgc_0 {k : Nat} (h : k < 2 ^ 31) : (lg_cmp (lN k) (0 : Int64) = 0) = (k = 0) := by
  unfold lg_cmp
  have e : (lN k = (0 : Int64)) = (k = 0) := propext (lN_eq (b := 0) h (by decide))
  have g : (lN k > (0 : Int64)) = (0 < k) := propext (lN_lt (a := 0) (by decide) h)
  by_cases q : k = 0
  · subst q; decide
  · rw [if_pos (g.mpr (by omega))]
    exact propext ⟨fun z => absurd z (by decide), fun z => absurd z q⟩
theorem dn_next {v : Nat} (h : v < 2 ^ 31) : (lN v * (16807 : Int64)) - (lN v * (16807 : Int64)) / (2147483647 : Int64) * (2147483647 : Int64) = lN (v * 16807 % 2147483647) := by
  rw [show (16807 : Int64) = lN 16807 from rfl, show (2147483647 : Int64) = lN 2147483647 from rfl, lN_mul]
  exact pk_lRem (by omega) (by decide) (by decide)
theorem dn_rem {v q : Nat} (h : v < 2 ^ 31) (h0 : 0 < q) (hq : q < 2 ^ 31) : (lN v - lN v / (nI q).toInt64 * (nI q).toInt64).toInt32 = nI (v % q) := by
  rw [nI_l hq, pk_lRem (by omega) h0 (by omega), lN_i]
theorem dn_3 {v : Nat} (h : v < 2 ^ 31) : (lg_cmp (lN v - lN v / (3 : Int64) * (3 : Int64)) (0 : Int64) = 0) = (v % 3 = 0) := by
  rw [show (3 : Int64) = lN 3 from rfl, pk_lRem (by omega) (by decide) (by decide)]
  exact lgc_0 (by omega)
theorem dn_8 {v q : Nat} (h : v < 2 ^ 31) (h0 : 0 < q) (hq : q < 2 ^ 31) : ((lN v / (8 : Int64)) - (lN v / (8 : Int64)) / (nI q).toInt64 * (nI q).toInt64).toInt32 = nI (v / 8 % q) := by
  rw [show (8 : Int64) = lN 8 from rfl, pk_lDiv (by omega) (by decide) (by decide)]
  exact dn_rem (by omega) h0 hq
theorem dn_64 {v q : Nat} (h : v < 2 ^ 31) (h0 : 0 < q) (hq : q < 2 ^ 31) : ((lN v / (64 : Int64)) - (lN v / (64 : Int64)) / (nI q).toInt64 * (nI q).toInt64).toInt32 = nI (v / 64 % q) := by
  rw [show (64 : Int64) = lN 64 from rfl, pk_lDiv (by omega) (by decide) (by decide)]
  exact dn_rem (by omega) h0 hq
theorem dn_nz {q : Nat} (h0 : 0 < q) (hq : q < 2 ^ 31) : nzL (nI q).toInt64 = some () := by
  unfold nzL
  rw [nI_l hq, if_neg]
  intro z
  have z : lN q = lN 0 := z
  rw [lN_eq hq (by decide)] at z
  omega
section Drawn
variable {I : Nat → Nat → Int32} {D : Nat → Nat → Option Nat} {K : Nat → Nat} {n N : Nat} {Z : Nat → Cl} {r : Ro}
theorem dnR_wf (hw : wf r N) (v : Nat) : wf (dnR r v) N ∧ dnR r v 0 = r 0 ∧ dnR r v 1 = r 1 := by
  unfold dnR
  have h2 := hw.1
  have hm : v % r 1 < r 1 := Nat.mod_lt _ (by omega)
  split
  · exact ⟨hw.low (by omega), uN_n _ (by omega), uN_n _ (by omega)⟩
  · exact ⟨hw, rfl, rfl⟩
theorem dnG_r0 (hw : wf r N) (hN : N ≤ 2000) (v : Nat) : wf (dnG r v).1.1 (N + 1) := wf_go (dnR_wf hw v).1 hN _
/-- the class's errand by two doors drawn, in a house as it stands -/
theorem c_dn2 (hc : CH I D K n 17 r) (hw : wf r N) (hN : N ≤ 2000) (x y : Int32) : ∃ I2 I3 I4, ast (enc I D K n Z) 29 0 (0 : Int32) x = some (enc I2 D K n Z) ∧ ast (enc I2 D K n Z) 29 0 (1 : Int32) y = some (enc I3 D K n Z) ∧ f_X10_go (enc I3 D K n Z) 16 29 (0 : Int32) (2 : Int32) = some (enc I4 D K n Z) ∧ CH I4 D K n 17 (wGo r [x, y]).1.1 ∧ CG I4 16 (wGo r [x, y]) ∧ FW I D I4 D := by
  have e1 := ast_n (I := I) (D := D) (K := K) (n := n) (Z := Z) s_29 0 x (by decide) (by decide)
  generalize h2 : va_up I 29 (upd (I 29) 0 x) = I2 at e1
  have e2 := ast_n (I := I2) (D := D) (K := K) (n := n) (Z := Z) s_29 1 y (by decide) (by decide)
  generalize h3 : va_up I2 29 (upd (I2 29) 1 y) = I3 at e2
  have f3 : ∀ x, x ≠ 29 → I3 x = I x := fun x hx => by rw [← h3, va_up_ne _ _ hx, ← h2, va_up_ne _ _ hx]
  have hc3 : CH I3 D K n 17 r := hc.move hw.le8.1 hw.le8.2 (HF.self (f3 17 (by omega)) (f3 (17 + 1) (by omega)) (f3 (17 + 2) (by omega)) rfl) (DK.of (fun q hq => f3 q (by omega)))
  obtain ⟨I4, g1, g2, g3, g4⟩ := c_gd (I := I3) (D := D) (K := K) (n := n) (Z := Z) s_29 (by decide) (by decide) hc3 hw hN (i := 0) (c := 2) (by decide) (by decide)
  have ei : itm (I3 29) 0 2 = [x, y] := by
    show [I3 29 0, I3 29 1] = _
    rw [← h3, va_up_self, pk_us, pk_un (by decide), ← h2, va_up_self, pk_us]
  rw [ei] at g2 g3
  exact ⟨I2, I3, I4, e1, e2, g1, g2, g3, ⟨fun x a b _ => by rw [g4.1 x a, f3 x b], fun _ _ _ => rfl⟩⟩
theorem c_goDrawn {v : Nat} (hv : v < 2 ^ 31) (hc : CH I D K n 17 r) (hw : wf r N) (hN : N ≤ 2000) : ∃ I', f_X11_goDrawn (enc I D K n Z) 0 (lN v) = some (enc I' D K n Z) ∧ CH I' D K n 17 (dnG r v).1.1 ∧ CG I' 16 (dnG r v) ∧ FW I D I' D := by
  have h1 := hw.1
  have h0 := hw.2.1
  have hm : v % r 1 < r 1 := Nat.mod_lt _ (by omega)
  have nz1 : ¬ nI (r 1) = 0 := nI_ne0 (by omega) (by omega)
  have nz0 : ¬ nI (r 0) = 0 := nI_ne0 (by omega) (by omega)
  have lr : f_X3_lacksRoom (enc I D K n Z) 17 (nI (v % r 1)) = some (0, enc I D K n Z) := by
    rw [c_lacksRoom h17 h1.2 hc.1.1, if_pos (by rw [toInt_nI (by omega)]; omega)]
  have lw : ald (enc I D K n Z) 18 0 (nI (v % r 1)) = some (nI (r (6 + v % r 1))) := by
    rw [← hc.2.1 _ hm]; exact ald_n (s_H1 h17) _ (by omega) (by decide)
  have h6 := hw.2.2.2.2.2.1 (v % r 1) (by omega)
  have ew : (nI (r (6 + v % r 1)) = (0 : Int32)) = (r (6 + v % r 1) = 0) := z_eq (by omega) (by decide)
  by_cases a : v % 3 = 0
  · by_cases b : r (6 + v % r 1) = 0
    · have ea : ast (enc I D K n Z) 18 0 (nI (v % r 1)) (5 : Int32) = some (enc (va_up I 18 (upd (I 18) (v % r 1) (nI 5))) D K n Z) := ast_n (s_H1 h17) _ _ (by omega) (by decide)
      have hcw := hc.weight h17 (k := v % r 1) (by omega) 5
      have e : dnR r v = uN r (6 + v % r 1) 5 := if_pos ⟨a, b⟩
      rw [← e] at hcw
      obtain ⟨I2, I3, I4, k1, k2, k3, k4, k5, k6⟩ := c_dn2 (Z := Z) hcw (dnR_wf hw v).1 hN (nI (v / 8 % r 0)) (nI (v / 64 % r 0))
      refine ⟨I4, ?_, k4, k5, FW.tr ⟨fun x p _ _ => va_up_ne _ _ (by omega), fun _ _ _ => rfl⟩ k6⟩
      have k1 : ast (enc (va_up I 18 (upd (I 18) (v % r 1) (nI 5))) D K n Z) 29 0 (0 : Int32) (nI (v / 8 % r 0)) = some (enc I2 D K n Z) := k1
      simp only [f_X11_goDrawn, r0_6, bA_s, g17_3, g17_4, hc.1.1, hc.1.2.1, if_neg nz1, if_neg nz0, dn_nz (show 0 < r 1 by omega) (show r 1 < 2 ^ 31 by omega), dn_nz (show 0 < r 0 by omega) (show r 0 < 2 ^ 31 by omega), dn_3 hv, if_pos a, c17, dn_rem hv (show 0 < r 1 by omega) (show r 1 < 2 ^ 31 by omega), lr, b2_s, if_true, r17_0, lw, ew, if_pos b, ea, r0_11, dn_8 hv (show 0 < r 0 by omega) (show r 0 < 2 ^ 31 by omega), k1, dn_64 hv (show 0 < r 0 by omega) (show r 0 < 2 ^ 31 by omega), k2, r0_5, c16, k3]
    · have e : dnR r v = r := if_neg (fun z => b z.2)
      obtain ⟨I2, I3, I4, k1, k2, k3, k4, k5, k6⟩ := c_dn2 (Z := Z) hc hw hN (nI (v / 8 % r 0)) (nI (v / 64 % r 0))
      unfold dnG
      rw [e]
      refine ⟨I4, ?_, k4, k5, k6⟩
      simp only [f_X11_goDrawn, r0_6, bA_s, g17_3, g17_4, hc.1.1, hc.1.2.1, if_neg nz1, if_neg nz0, dn_nz (show 0 < r 1 by omega) (show r 1 < 2 ^ 31 by omega), dn_nz (show 0 < r 0 by omega) (show r 0 < 2 ^ 31 by omega), dn_3 hv, if_pos a, c17, dn_rem hv (show 0 < r 1 by omega) (show r 1 < 2 ^ 31 by omega), lr, b2_s, if_true, r17_0, lw, ew, if_neg b, r0_11, dn_8 hv (show 0 < r 0 by omega) (show r 0 < 2 ^ 31 by omega), k1, dn_64 hv (show 0 < r 0 by omega) (show r 0 < 2 ^ 31 by omega), k2, r0_5, c16, k3]
  · have e : dnR r v = r := if_neg (fun z => a z.1)
    obtain ⟨I2, I3, I4, k1, k2, k3, k4, k5, k6⟩ := c_dn2 (Z := Z) hc hw hN (nI (v / 8 % r 0)) (nI (v / 64 % r 0))
    unfold dnG
    rw [e]
    refine ⟨I4, ?_, k4, k5, k6⟩
    simp only [f_X11_goDrawn, r0_6, bA_s, g17_3, g17_4, hc.1.1, hc.1.2.1, if_neg nz1, if_neg nz0, dn_nz (show 0 < r 1 by omega) (show r 1 < 2 ^ 31 by omega), dn_nz (show 0 < r 0 by omega) (show r 0 < 2 ^ 31 by omega), dn_3 hv, if_neg a, r0_11, dn_8 hv (show 0 < r 0 by omega) (show r 0 < 2 ^ 31 by omega), k1, dn_64 hv (show 0 < r 0 by omega) (show r 0 < 2 ^ 31 by omega), k2, r0_5, c16, k3]
theorem c_dn_L {β : Type} (kk : Int32 → Int32 → Int64 → Int32 → Hp → Option β) (x2 x3 : Int32) {nn : Nat} (hn : nn ≤ 60) : ∀ (c fuel j : Nat) (r : Ro) (N v t w : Nat) (I : Nat → Nat → Int32), j + c = nn → c < fuel → v < 2 ^ 31 → CH I D K n 17 r → wf r N → N + c ≤ 2000 → ∃ I' y z, f_X11_drawn_L71 kk 0 (nI nn) x2 x3 fuel (enc I D K n Z) (nI t) (nI w) (lN v) (nI j) = kk (nI (dnL c r v t w).1) (nI (dnL c r v t w).2) y z (enc I' D K n Z) ∧ FW I D I' D := by
  intro c
  induction c with
  | zero =>
    intro fuel j r N v t w I hj hf hv hc hw hN
    obtain ⟨f, rfl⟩ : ∃ f, fuel = f + 1 := ⟨fuel - 1, by omega⟩
    exact ⟨I, _, _, by rw [f_X11_drawn_L71, if_pos (nI_le (show nn ≤ j by omega) (by omega)), dnL], FW.rf⟩
  | succ c ih =>
    intro fuel j r N v t w I hj hf hv hc hw hN
    obtain ⟨f, rfl⟩ : ∃ f, fuel = f + 1 := ⟨fuel - 1, by omega⟩
    have hv' : v * 16807 % 2147483647 < 2 ^ 31 := by have := Nat.mod_lt (v * 16807) (show 0 < 2147483647 by decide); omega
    rw [f_X11_drawn_L71, if_neg (nI_ge (show j < nn by omega) (by omega)), dn_next hv, dnL]
    generalize v * 16807 % 2147483647 = u at hv'
    obtain ⟨I1, g1, g2, g3, g4⟩ := c_goDrawn (Z := Z) hv' hc hw (by omega)
    have hgw := wGo_w (dnR_wf hw u).1 (show N ≤ 2000 by omega) [nI (u / 8 % r 0), nI (u / 64 % r 0)]
    have hgf : (dnG r u).2.1 < 2 ^ 31 := wGo_f _
    have hgw : (dnG r u).2.2 ≤ 20 ∧ ((dnG r u).2.1 = 0 ↔ (dnG r u).2.2 ≠ 0) := hgw
    have hwg := dnG_r0 hw (show N ≤ 2000 by omega) u
    generalize dnG r u = g at g2 g3 hgf hgw hwg
    have ez : (nI g.2.1 = (0 : Int32)) = (g.2.1 = 0) := z_eq hgf (by decide)
    have w9 := g3.2.2.2.2.2.1
    have w10 := g3.2.2.2.2.2.2.1
    obtain ⟨I2, y, z, k1, k2⟩ := ih f (j + 1) g.1.1 (N + 1) u (t + g.2.2) (if g.2.1 = 0 then w + 1 else w) I1 (by omega) (by omega) hv' g2 hwg (by omega)
    refine ⟨I2, y, z, ?_, g4.tr k2⟩
    rw [← k1]
    simp only [c0, bA_s, g1, r0_5, g16_10, w10, ez, z_i2]
    by_cases e : g.2.1 = 0
    · simp only [if_pos e, g16_9, w9, bA_s, b2_s, nI_add]
    · have e2 : g.2.2 = 0 := by have := mt hgw.2.mpr e; omega
      simp only [if_neg e, b2_s, e2, Nat.add_zero]
/-- the reference's night -/
theorem m_dn2 {J : Nat → Nat → Int32} (hM : MH (J 168) r) (hw : wf r N) (hN : N ≤ 2000) (x y : Int32) : ∃ J2 J3 J4, ast (enc J D K n Z) 171 0 (0 : Int32) x = some (enc J2 D K n Z) ∧ ald (enc J2 D K n Z) 168 0 (0 : Int32) = some (nI (r 0)) ∧ ast (enc J2 D K n Z) 171 0 (1 : Int32) y = some (enc J3 D K n Z) ∧ f_X12_goOut (enc J3 D K n Z) 162 168 (2 : Int32) = some (nI (wGo r [x, y]).2.2, enc J4 D K n Z) ∧ MH (J4 168) (wGo r [x, y]).1.1 ∧ TF J J4 := by
  have e1 := ast_n (I := J) (D := D) (K := K) (n := n) (Z := Z) s_171 0 x (by decide) (by decide)
  generalize h2 : va_up J 171 (upd (J 171) 0 x) = J2 at e1
  have e2 := ast_n (I := J2) (D := D) (K := K) (n := n) (Z := Z) s_171 1 y (by decide) (by decide)
  generalize h3 : va_up J2 171 (upd (J2 171) 1 y) = J3 at e2
  have f2 : ∀ x, x ≠ 171 → J2 x = J x := fun x hx => by rw [← h2, va_up_ne _ _ hx]
  have f3 : ∀ x, x ≠ 171 → J3 x = J x := fun x hx => by rw [← h3, va_up_ne _ _ hx, f2 x hx]
  have hM3 : MH (J3 168) r := by rw [f3 168 (by decide)]; exact hM
  obtain ⟨J4, d1, d2, d3, d4, d5, d6⟩ := m_gd (I := J3) (D := D) (K := K) (n := n) (Z := Z) hM3 hw hN (c := 2) (by decide)
  have ei : itm (J3 171) 0 2 = [x, y] := by
    show [J3 171 0, J3 171 1] = _
    rw [← h3, va_up_self, pk_us, pk_un (by decide), ← h2, va_up_self, pk_us]
  rw [ei] at d1 d2
  have l0 : ald (enc J2 D K n Z) 168 0 (0 : Int32) = some (nI (r 0)) := by
    have z := ald_n (I := J2) (D := D) (K := K) (n := n) (Z := Z) s_168 0 (by decide) (by decide)
    rw [f2 168 (by decide), hM 0 (by decide)] at z
    exact z
  exact ⟨J2, J3, J4, e1, l0, e2, d1, d2, ⟨fun x a b c d => by rw [d4.1 x a b c d, f3 x c], fun j a b c => by rw [d4.2 j a b c, f3 162 (by decide)]⟩, by rw [d6, f3 162 (by decide)]⟩
theorem m_drw_L {β : Type} (kk : Int64 → Int32 → Int32 → Int32 → Hp → Option β) (x2 x3 : Int32) {nn : Nat} (hn : nn ≤ 60) : ∀ (c fuel j : Nat) (r : Ro) (N v t w : Nat) (J : Nat → Nat → Int32), j + c = nn → c < fuel → v < 2 ^ 31 → MH (J 168) r → wf r N → N + c ≤ 2000 → ∃ J' y z, f_X12_drawn_L69 kk 162 (nI nn) x2 x3 fuel (enc J D K n Z) (lN v) (nI t) (nI w) (nI j) = kk y (nI (dnL c r v t w).1) (nI (dnL c r v t w).2) z (enc J' D K n Z) ∧ TF J J' := by
  intro c
  induction c with
  | zero =>
    intro fuel j r N v t w J hj hf hv hM hw hN
    obtain ⟨f, rfl⟩ : ∃ f, fuel = f + 1 := ⟨fuel - 1, by omega⟩
    exact ⟨J, _, _, by rw [f_X12_drawn_L69, if_pos (nI_le (show nn ≤ j by omega) (by omega)), dnL], TF.rf J⟩
  | succ c ih =>
    intro fuel j r N v t w J hj hf hv hM hw hN
    obtain ⟨f, rfl⟩ : ∃ f, fuel = f + 1 := ⟨fuel - 1, by omega⟩
    have hv' : v * 16807 % 2147483647 < 2 ^ 31 := by have := Nat.mod_lt (v * 16807) (show 0 < 2147483647 by decide); omega
    rw [f_X12_drawn_L69, if_neg (nI_ge (show j < nn by omega) (by omega)), dn_next hv, dnL]
    generalize v * 16807 % 2147483647 = u at hv'
    have h1 := hw.1
    have h0 := hw.2.1
    have hm : u % r 1 < r 1 := Nat.mod_lt _ (by omega)
    have l1 : ald (enc J D K n Z) 168 0 (1 : Int32) = some (nI (r 1)) := by
      have z := ald_n (I := J) (D := D) (K := K) (n := n) (Z := Z) s_168 1 (by decide) (by decide)
      rw [hM 1 (by decide)] at z
      exact z
    have e6 : (6 : Int32) + nI (u % r 1) = nI (6 + u % r 1) := nI_add 6 _
    have lw : ald (enc J D K n Z) 168 0 (nI (6 + u % r 1)) = some (nI (r (6 + u % r 1))) := by
      have z := ald_n (I := J) (D := D) (K := K) (n := n) (Z := Z) s_168 (6 + u % r 1) (by omega) (by decide)
      rw [hM _ (by omega)] at z
      exact z
    have h6 := hw.2.2.2.2.2.1 (u % r 1) (by omega)
    have ew : (nI (r (6 + u % r 1)) = (0 : Int32)) = (r (6 + u % r 1) = 0) := z_eq (by omega) (by decide)
    have hgw : (dnG r u).2.2 ≤ 20 ∧ ((dnG r u).2.1 = 0 ↔ (dnG r u).2.2 ≠ 0) := wGo_w (dnR_wf hw u).1 (show N ≤ 2000 by omega) [nI (u / 8 % r 0), nI (u / 64 % r 0)]
    have hwg := dnG_r0 hw (show N ≤ 2000 by omega) u
    have wl : (nI (dnG r u).2.2 ≤ (0 : Int32)) = ((dnG r u).2.2 ≤ 0) := z_le (m := 0) (by omega) (by decide)
    have dr := dnR_wf hw u
    have fin : ∀ J1 : Nat → Nat → Int32, MH (J1 168) (dnR r u) → TF J J1 → ∃ J2 J3 J4 J' y z, ast (enc J1 D K n Z) 171 0 (0 : Int32) (nI (u / 8 % r 0)) = some (enc J2 D K n Z) ∧ ald (enc J1 D K n Z) 168 0 (0 : Int32) = some (nI (r 0)) ∧ ald (enc J2 D K n Z) 168 0 (0 : Int32) = some (nI (r 0)) ∧ ast (enc J2 D K n Z) 171 0 (1 : Int32) (nI (u / 64 % r 0)) = some (enc J3 D K n Z) ∧ f_X12_goOut (enc J3 D K n Z) 162 168 (2 : Int32) = some (nI (dnG r u).2.2, enc J4 D K n Z) ∧ TF J J' ∧ f_X12_drawn_L69 kk 162 (nI nn) x2 x3 f (enc J4 D K n Z) (lN u) (nI (t + (dnG r u).2.2)) (nI (if (dnG r u).2.1 = 0 then w + 1 else w)) (nI (j + 1)) = kk y (nI (dnL c (dnG r u).1.1 u (t + (dnG r u).2.2) (if (dnG r u).2.1 = 0 then w + 1 else w)).1) (nI (dnL c (dnG r u).1.1 u (t + (dnG r u).2.2) (if (dnG r u).2.1 = 0 then w + 1 else w)).2) z (enc J' D K n Z) := by
      intro J1 hM1 tf
      obtain ⟨J2, J3, J4, k1, k2, k3, k4, k5, k6⟩ := m_dn2 (D := D) (K := K) (n := n) (Z := Z) hM1 dr.1 (show N ≤ 2000 by omega) (nI (u / 8 % r 0)) (nI (u / 64 % r 0))
      rw [dr.2.1] at k2
      have l0 : ald (enc J1 D K n Z) 168 0 (0 : Int32) = some (nI (r 0)) := by
        have z := ald_n (I := J1) (D := D) (K := K) (n := n) (Z := Z) s_168 0 (by decide) (by decide)
        rw [hM1 0 (by decide), dr.2.1] at z
        exact z
      obtain ⟨J', y, z, q1, q2⟩ := ih f (j + 1) (dnG r u).1.1 (N + 1) u (t + (dnG r u).2.2) (if (dnG r u).2.1 = 0 then w + 1 else w) J4 (by omega) (by omega) hv' k5 hwg (by omega)
      exact ⟨J2, J3, J4, J', y, z, k1, l0, k2, k3, k4, tf.tr (k6.tr q2), q1⟩
    have cnt : ∀ h : Hp, (bA (if (dnG r u).2.2 ≤ 0 then some (0 : Int32) else some (1 : Int32)) fun j101 => f_X12_drawn_L69 kk 162 (nI nn) x2 x3 f h (lN u) (nI (t + (dnG r u).2.2)) (nI w + j101) (nI (j + 1))) = f_X12_drawn_L69 kk 162 (nI nn) x2 x3 f h (lN u) (nI (t + (dnG r u).2.2)) (nI (if (dnG r u).2.1 = 0 then w + 1 else w)) (nI (j + 1)) := by
      intro h
      by_cases e : (dnG r u).2.1 = 0
      · rw [if_neg (by have := hgw.2.mp e; omega), bA_s, if_pos e, z_i2]
      · rw [if_pos (by have := mt hgw.2.mpr e; omega), bA_s, if_neg e, show nI w + (0 : Int32) = nI w from nI_add w 0]
    by_cases a : r (6 + u % r 1) = 0
    · by_cases b : u % 3 = 0
      · have ea : ast (enc J D K n Z) 168 0 (nI (6 + u % r 1)) (5 : Int32) = some (enc (va_up J 168 (upd (J 168) (6 + u % r 1) (nI 5))) D K n Z) := ast_n s_168 _ _ (by omega) (by decide)
        have e : dnR r u = uN r (6 + u % r 1) 5 := if_pos ⟨b, a⟩
        obtain ⟨J2, J3, J4, J', y, z, q1, q2, q3, q4, q5, q6, q7⟩ := fin (va_up J 168 (upd (J 168) (6 + u % r 1) (nI 5))) (by rw [va_up_self, e]; exact hM.upd _ 5) ⟨FM.lay (fun x hx => va_up_ne _ _ hx), by rw [va_up_ne _ _ (by decide)]⟩
        refine ⟨J', y, z, ?_, q6⟩
        rw [← q7]
        simp only [r162_7, bA_s, l1, dn_nz (show 0 < r 1 by omega) (show r 1 < 2 ^ 31 by omega), dn_rem hv' (show 0 < r 1 by omega) (show r 1 < 2 ^ 31 by omega), e6, lw, ew, if_pos a, dn_3 hv', if_pos b, ea, r162_19, q2, dn_nz (show 0 < r 0 by omega) (show r 0 < 2 ^ 31 by omega), dn_8 hv' (show 0 < r 0 by omega) (show r 0 < 2 ^ 31 by omega), q1, q3, dn_64 hv' (show 0 < r 0 by omega) (show r 0 < 2 ^ 31 by omega), q4, c162, q5, b2_s, wl, nI_add, z_i2]
        exact cnt _
      · have e : dnR r u = r := if_neg (fun z => b z.1)
        obtain ⟨J2, J3, J4, J', y, z, q1, q2, q3, q4, q5, q6, q7⟩ := fin J (by rw [e]; exact hM) (TF.rf J)
        refine ⟨J', y, z, ?_, q6⟩
        rw [← q7]
        simp only [r162_7, bA_s, l1, dn_nz (show 0 < r 1 by omega) (show r 1 < 2 ^ 31 by omega), dn_rem hv' (show 0 < r 1 by omega) (show r 1 < 2 ^ 31 by omega), e6, lw, ew, if_pos a, dn_3 hv', if_neg b, r162_19, q2, dn_nz (show 0 < r 0 by omega) (show r 0 < 2 ^ 31 by omega), dn_8 hv' (show 0 < r 0 by omega) (show r 0 < 2 ^ 31 by omega), q1, q3, dn_64 hv' (show 0 < r 0 by omega) (show r 0 < 2 ^ 31 by omega), q4, c162, q5, b2_s, wl, nI_add, z_i2]
        exact cnt _
    · have e : dnR r u = r := if_neg (fun z => a z.2)
      obtain ⟨J2, J3, J4, J', y, z, q1, q2, q3, q4, q5, q6, q7⟩ := fin J (by rw [e]; exact hM) (TF.rf J)
      refine ⟨J', y, z, ?_, q6⟩
      rw [← q7]
      simp only [r162_7, bA_s, l1, dn_nz (show 0 < r 1 by omega) (show r 1 < 2 ^ 31 by omega), dn_rem hv' (show 0 < r 1 by omega) (show r 1 < 2 ^ 31 by omega), e6, lw, ew, if_neg a, r162_19, q2, dn_nz (show 0 < r 0 by omega) (show r 0 < 2 ^ 31 by omega), dn_8 hv' (show 0 < r 0 by omega) (show r 0 < 2 ^ 31 by omega), q1, q3, dn_64 hv' (show 0 < r 0 by omega) (show r 0 < 2 ^ 31 by omega), q4, c162, q5, b2_s, wl, nI_add, z_i2]
      exact cnt _
end Drawn
