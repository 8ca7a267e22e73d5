/-! WHAT IS FORETOLD: the class dreams in a house of its own, the reference in its row 'then' -/
section Dream
variable {I I' : Nat → Nat → Int32} {D D' : Nat → Nat → Option Nat} {K : Nat → Nat} {n N : Nat} {Z : Nat → Cl} {r : Ro}
theorem h17 : isH 17 := by simp [isH]
/-- what the class's dream may change -/
def FD (I : Nat → Nat → Int32) (D : Nat → Nat → Option Nat) (I' : Nat → Nat → Int32) (D' : Nat → Nat → Option Nat) : Prop := (∀ x, (x < 16 ∨ 23 < x) → I' x = I x) ∧ (∀ x, x ≠ 20 → D' x = D x)
theorem FD.rfl' : FD I D I D := ⟨fun _ _ => rfl, fun _ _ => rfl⟩
theorem FD.trans {J : Nat → Nat → Int32} {E : Nat → Nat → Option Nat} (h : FD I D I' D') (g : FD I' D' J E) : FD I D J E := ⟨fun x a => (g.1 x a).trans (h.1 x a), fun x a => (g.2 x a).trans (h.2 x a)⟩
/-- what the reference's dream may change -/
def FM (I I' : Nat → Nat → Int32) : Prop := (∀ x, x ≠ 162 → x ≠ 168 → x ≠ 171 → x ≠ 172 → I' x = I x) ∧ (∀ j, j ≠ 0 → j ≠ 1 → (j < 21 ∨ 25 < j) → I' 162 j = I 162 j)
theorem FM.rfl' : FM I I := ⟨fun _ _ _ _ _ => rfl, fun _ _ _ _ => rfl⟩
theorem FM.trans {J : Nat → Nat → Int32} (h : FM I I') (g : FM I' J) : FM I J := ⟨fun x a b c d => (g.1 x a b c d).trans (h.1 x a b c d), fun j a b c => (g.2 j a b c).trans (h.2 j a b c)⟩
theorem FrM.FM (h : FrM 168 I I') : FM I I' := ⟨fun x a b c d => h.1 x a d b, fun j a b c => h.2 j c⟩
theorem FM.thr : FM I (thr I) := ⟨fun x a b c d => thr_n a, fun j a b c => thr_s a⟩
theorem FD.dk (h : FD I D I' D') : DK I K n I' K n := DK.of (fun q hq => h.1 q (by omega))
theorem FD.ho (h : FD I D I' D') (hc : CH I D K n 9 r) (h1 : r 1 ≤ 8) (h0 : r 0 ≤ 8) : CH I' D' K n 9 r := hc.move h1 h0 (HF.self (h.1 9 (by omega)) (h.1 10 (by omega)) (h.1 11 (by omega)) (h.2 12 (by omega))) h.dk
/-- dreams end: nothing that callers see has changed but the status -/
theorem Inv.dream (h : Inv I D K n N) (f : FD I D I' D') (dv : DV D' K n) {s : Int32} {J : Nat → Nat → Int32} (g : FM (va_up I' 0 (upd (I' 0) 15 s)) J) (hs : J 162 1 = s) : Inv J D' K n (N + 1) := by
  have q : ∀ x, (x < 16 ∨ 23 < x) → x ≠ 0 → x ≠ 162 → x ≠ 168 → x ≠ 171 → x ≠ 172 → J x = I x := fun x a b c d e f' => by rw [g.1 x c d e f', va_up_ne _ _ b, f.1 x a]
  have q0 : J 0 = upd (I 0) 15 s := by rw [g.1 0 (by decide) (by decide) (by decide) (by decide), va_up_self, f.1 0 (by omega)]
  refine h.frame (by omega) ⟨fun x hx => ?_, fun j a b => by rw [q0, pk_un (by omega)], by rw [q 2 (by omega) (by decide) (by decide) (by decide) (by decide) (by decide)], fun j hj => ?_⟩ (fun x a b c => f.2 x (by omega)) (DK.of (fun q' hq => q q' (by omega) (by omega) (by omega) (by omega) (by omega) (by omega))) dv ?_
  · unfold obs at hx
    exact q x (by omega) (by omega) (by omega) (by omega) (by omega) (by omega)
  · rw [g.2 j (by omega) (by omega) (by omega), va_up_ne _ _ (by decide), f.1 162 (by omega)]
  · rw [q0, pk_us, hs]
/-- dreams that tell no status -/
theorem Inv.dream0 (h : Inv I D K n N) (f : FD I D I' D') (dv : DV D' K n) {J : Nat → Nat → Int32} (g : FM I' J) (hs : J 162 1 = I 162 1) : Inv J D' K n (N + 1) := by
  have e : va_up I' 0 (upd (I' 0) 15 (I' 0 15)) = I' := by
    funext x
    by_cases hx : x = 0
    · subst hx; rw [va_up_self, fa_upd_same rfl]
    · rw [va_up_ne _ _ hx]
  refine h.dream f dv (s := I' 0 15) (J := J) (by rw [e]; exact g) ?_
  rw [hs, f.1 0 (by omega)]; exact h.2.1.2.2.1.symm
theorem c_bd (hD : DV D K n) (hc : CH I D K n 9 r) (h1 : r 1 ≤ 8) (h0 : r 0 ≤ 8) : ∃ I' D', f_X3_become (enc I D K n Z) 17 9 = some (enc I' D' K n Z) ∧ CH I' D' K n 17 r ∧ FD I D I' D' ∧ DV D' K n := by
  obtain ⟨I1, D1, b1, b2', b3, b4, b5⟩ := c_become (I := I) (D := D) (K := K) (n := n) (Z := Z) h17 h9 (by decide) hD
  have f : FD I D I1 D1 := ⟨fun x hx => b3 x (by omega) (by omega) (by omega), fun x hx => b4 x (by omega)⟩
  exact ⟨I1, D1, b1, hc.move h1 h0 b2' f.dk, f, b5⟩
theorem c_gd {x1 m0 : Nat} (hx1 : shp K n x1 = some (.inr (.inl (0, m0)))) (hm0 : m0 < 2 ^ 30) (hx2 : 23 < x1) (hc : CH I D K n 17 r) (hwf : wf r N) (hN : N ≤ 2000) {i c : Nat} (hin : i + c ≤ m0) (hc8 : c ≤ 8) : ∃ I', f_X10_go (enc I D K n Z) 16 x1 (nI i) (nI c) = some (enc I' D K n Z) ∧ CH I' D K n 17 (wGo r (itm (I x1) i c)).1.1 ∧ CG I' 16 (wGo r (itm (I x1) i c)) ∧ FD I D I' D := by
  obtain ⟨I1, g1, g2, g3, g4⟩ := c_go (D := D) (K := K) (n := n) (Z := Z) isW16 hx1 hm0 (show x1 < 16 ∨ 16 + 7 < x1 by omega) hc hwf hN hin hc8
  exact ⟨I1, g1, g2, g3, ⟨fun x hx => g4 x hx, fun _ _ => rfl⟩⟩
theorem c_foretell {x1 m0 : Nat} (hx1 : shp K n x1 = some (.inr (.inl (0, m0)))) (hm0 : m0 < 2 ^ 30) (hx2 : 23 < x1) (hD : DV D K n) (hc : CH I D K n 9 r) (hwf : wf r N) (hN : N ≤ 2000) {i c : Nat} (hin : i + c ≤ m0) (hc8 : c ≤ 8) : ∃ I' D', f_X11_foretell (enc I D K n Z) 0 x1 (nI i) (nI c) = some (enc I' D' K n Z) ∧ CG I' 16 (wGo r (itm (I x1) i c)) ∧ FD I D I' D' ∧ DV D' K n := by
  obtain ⟨I1, D1, b1, b2', b3, b4⟩ := c_bd (I := I) (D := D) (K := K) (n := n) (Z := Z) hD hc hwf.le8.1 hwf.le8.2
  obtain ⟨I2, g1, g2, g3, g4⟩ := c_gd (D := D1) (Z := Z) hx1 hm0 hx2 b2' hwf hN hin hc8
  rw [b3.1 x1 (by omega)] at g3
  refine ⟨I2, D1, ?_, g3, b3.trans g4, b4⟩
  simp only [f_X11_foretell, r0_6, r0_3, bA_s, c17, b1, r0_5, c16, g1]
/-- the reference dreams: the row 'then' is laid, changed or not, and gone over -/
theorem m_gd (hM : MH (I 168) r) (hwf : wf r N) (hN : N ≤ 2000) {c : Nat} (hc8 : c ≤ 8) : ∃ I', f_X12_goOut (enc I D K n Z) 162 168 (nI c) = some (nI (wGo r (itm (I 171) 0 c)).2.2, enc I' D K n Z) ∧ MH (I' 168) (wGo r (itm (I 171) 0 c)).1.1 ∧ MG I' (wGo r (itm (I 171) 0 c)) ∧ FM I I' ∧ I' 171 = I 171 ∧ I' 162 1 = I 162 1 := by
  obtain ⟨I1, d1, d2, d3, d4⟩ := m_go (D := D) (K := K) (n := n) (Z := Z) R168 hM hwf hN hc8
  exact ⟨I1, d1, d2, d3, d4.FM, d4.1 171 (by decide) (by decide) (by decide), d4.2 1 (by omega)⟩
theorem m_ld (hM : MH (I 166) r) : ∃ I', f_X12_layThen (enc I D K n Z) 162 = some (enc I' D K n Z) ∧ MH (I' 168) r ∧ (∀ x, x ≠ 168 → I' x = I x) := m_lay hM
theorem FM.lay (h : ∀ x, x ≠ 168 → I' x = I x) : FM I I' := ⟨fun x a b c d => h x b, fun j a b c => by rw [h 162 (by decide)]⟩
/-- the outcome, as a number -/
def outN (g : WS × Nat × Nat) : Nat := if g.2.1 = 0 then g.2.2 else 1000 + g.2.1
theorem c_outcome {g : WS × Nat × Nat} (hg : CG I 16 g) (hf : g.2.1 < 2 ^ 31) : f_X10_outcome (enc I D K n Z) 16 = some (nI (outN g), enc I D K n Z) := by
  obtain ⟨w3, w5, w6, w7, w8, w9, w10, wl⟩ := hg
  have ez : (nI g.2.1 = (0 : Int32)) = (g.2.1 = 0) := z_eq hf (by decide)
  unfold outN
  simp only [f_X10_outcome, g16_10, bA_s, w10, ez]
  by_cases e : g.2.1 = 0
  · simp only [if_pos e, g16_9, bA_s, w9]
  · simp only [if_neg e, g16_10, bA_s, w10, show (1000 : Int32) = nI 1000 from rfl, nI_add]
theorem m_outcome {g : WS × Nat × Nat} (hf : g.2.1 < 2 ^ 31) : (if nI g.2.1 = (0 : Int32) then some (nI g.2.2) else bA (some (nI g.2.1)) fun g19 => some ((1000 : Int32) + g19)) = some (nI (outN g)) := by
  have ez : (nI g.2.1 = (0 : Int32)) = (g.2.1 = 0) := z_eq hf (by decide)
  unfold outN
  simp only [ez]
  by_cases e : g.2.1 = 0
  · rw [if_pos e, if_pos e]
  · rw [if_neg e, if_neg e, bA_s, show (1000 : Int32) = nI 1000 from rfl, nI_add]
end Dream
