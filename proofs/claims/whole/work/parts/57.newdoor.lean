/-! NEW DOORS -/
theorem bA_id {α : Type} (o : Option α) : bA o (fun h => some h) = o := by cases o <;> rfl
section NewDoor
variable {I I' : Nat → Nat → Int32} {D D' : Nat → Nat → Option Nat} {K K' : Nat → Nat} {n n' N : Nat} {Z : Nat → Cl} {r : Ro}
theorem pD_e {q : Nat} (h : isDr K n q) (k : Nat) (hk : k < 4) (v : Int32) : pD (enc I D K n Z) q k (.inl v) = some (enc (va_up I q (upd (I q) k v)) D K n Z) := by
  have hp : ([none, none, none, none] : List (Option Nat))[k]? = some none := by
    rcases (show k = 0 ∨ k = 1 ∨ k = 2 ∨ k = 3 by omega) with rfl | rfl | rfl | rfl <;> rfl
  simp only [pD, gO_e (shp_dr h), mkfs_len, h.2.2, List.length_cons, List.length_nil, hk, and_self, if_true, mkfs_set _ 0 k _ v hp, Nat.zero_add, up_cell (shp_dr h)]
theorem c_init2 {q : Nat} (h : isDr K n q) (a b c d : Int32) : f_X2_init (enc I D K n Z) q a b c d = some (enc (va_up I q (upd (upd (upd (upd (I q) 0 a) 1 b) 2 c) 3 d)) D K n Z) := by
  simp only [f_X2_init, pD_e h 0 (by decide), pD_e h 1 (by decide), pD_e h 2 (by decide), pD_e h 3 (by decide), bA_s, va_up_self, bx_uu]
/-- a door made: what it holds -/
def NDr (row : Nat → Int32) (a b c d : Int32) : Prop := row 0 = a ∧ row 1 = b ∧ row 2 = c ∧ row 3 = d
theorem c_newd (kc : Nat) (hk : isD kc = true) (a b c d : Int32) : ∃ row, nw (enc I D K n Z) (.inr (.inr (kc, [.inl 0, .inl 0, .inl 0, .inl 0]))) (fun q h => bA (f_X2_init h q a b c d) fun h5 => some (some q, h5)) = some (some (177 + n), enc (va_up I (177 + n) row) D (va_up K (177 + n) kc) (n + 1) Z) ∧ NDr row a b c d := by
  unfold nw
  rw [new_e 0 0 0 0 rfl]
  have hdr : isDr (va_up K (177 + n) kc) (n + 1) (177 + n) := ⟨by omega, by omega, by rw [va_up_self]; exact hk⟩
  refine ⟨upd (upd (upd (upd (fun k => if k = 0 then (0 : Int32) else if k = 1 then 0 else if k = 2 then 0 else 0) 0 a) 1 b) 2 c) 3 d, ?_, ?_⟩
  · show bA (f_X2_init (enc _ D (va_up K (177 + n) kc) (n + 1) Z) (177 + n) a b c d) _ = _
    rw [c_init2 hdr, bA_s, bx_uu, va_up_self]
    rfl
  · refine ⟨?_, ?_, ?_, ?_⟩
    · rw [pk_un (by decide), pk_un (by decide), pk_un (by decide), pk_us]
    · rw [pk_un (by decide), pk_un (by decide), pk_us]
    · rw [pk_un (by decide), pk_us]
    · rw [pk_us]
theorem c_of {s : Nat} (h1 : 1 ≤ s) (h5 : s ≤ 5) (a b c d : Int32) : ∃ row kc, f_X2_of (enc I D K n Z) (nI s) a b c d = some (some (177 + n), enc (va_up I (177 + n) row) D (va_up K (177 + n) kc) (n + 1) Z) ∧ NDr row a b c d ∧ isD kc = true ∧ kd kc = s := by
  rcases (show s = 1 ∨ s = 2 ∨ s = 3 ∨ s = 4 ∨ s = 5 by omega) with rfl | rfl | rfl | rfl | rfl
  · obtain ⟨row, e1, e2⟩ := c_newd (I := I) (D := D) (K := K) (n := n) (Z := Z) 3 rfl a b c d
    refine ⟨row, 3, ?_, e2, rfl, rfl⟩
    rw [f_X2_of, if_neg (by decide), if_neg (by decide), if_neg (by decide), if_neg (by decide)]
    simp only [f_X4_init, bA_id]
    exact e1
  · obtain ⟨row, e1, e2⟩ := c_newd (I := I) (D := D) (K := K) (n := n) (Z := Z) 0 rfl a b c d
    refine ⟨row, 0, ?_, e2, rfl, rfl⟩
    rw [f_X2_of, if_pos (show nI 2 = (2 : Int32) from rfl)]
    simp only [f_X0_init, f_X4_init, bA_id]
    exact e1
  · obtain ⟨row, e1, e2⟩ := c_newd (I := I) (D := D) (K := K) (n := n) (Z := Z) 1 rfl a b c d
    refine ⟨row, 1, ?_, e2, rfl, rfl⟩
    rw [f_X2_of, if_neg (by decide), if_pos (show nI 3 = (3 : Int32) from rfl)]
    simp only [f_X1_init, f_X4_init, bA_id]
    exact e1
  · obtain ⟨row, e1, e2⟩ := c_newd (I := I) (D := D) (K := K) (n := n) (Z := Z) 4 rfl a b c d
    refine ⟨row, 4, ?_, e2, rfl, rfl⟩
    rw [f_X2_of, if_neg (by decide), if_neg (by decide), if_pos (show nI 4 = (4 : Int32) from rfl)]
    simp only [f_X5_init, bA_id]
    exact e1
  · obtain ⟨row, e1, e2⟩ := c_newd (I := I) (D := D) (K := K) (n := n) (Z := Z) 8 rfl a b c d
    refine ⟨row, 8, ?_, e2, rfl, rfl⟩
    rw [f_X2_of, if_neg (by decide), if_neg (by decide), if_neg (by decide), if_pos (show nI 5 = (5 : Int32) from rfl)]
    simp only [f_X9_init, f_X5_init, bA_id]
    exact e1
theorem DK.new (row : Nat → Int32) (kc : Nat) : DK I K n (va_up I (177 + n) row) (va_up K (177 + n) kc) (n + 1) := ⟨by omega, fun q h1 h2 => ⟨va_up_ne _ _ (by omega), va_up_ne _ _ (by omega)⟩⟩
/-- what the class's dream may change, doors made -/
def FE (I : Nat → Nat → Int32) (D : Nat → Nat → Option Nat) (K : Nat → Nat) (n : Nat) (I' : Nat → Nat → Int32) (D' : Nat → Nat → Option Nat) (K' : Nat → Nat) (n' : Nat) : Prop := (∀ x, (x < 16 ∨ 23 < x) → x < 177 → I' x = I x) ∧ (∀ x, x ≠ 20 → D' x = D x) ∧ DK I K n I' K' n'
theorem FE.rf : FE I D K n I D K n := ⟨fun _ _ _ => rfl, fun _ _ => rfl, DK.rfl'⟩
theorem FE.tr {J : Nat → Nat → Int32} {E : Nat → Nat → Option Nat} {L : Nat → Nat} {m : Nat} (h : FE I D K n I' D' K' n') (g : FE I' D' K' n' J E L m) : FE I D K n J E L m := ⟨fun x a b => (g.1 x a b).trans (h.1 x a b), fun x a => (g.2.1 x a).trans (h.2.1 x a), h.2.2.trans g.2.2⟩
theorem FD.fe (h : FD I D I' D') : FE I D K n I' D' K n := ⟨fun x a _ => h.1 x a, h.2, h.dk⟩
theorem FE.ho (h : FE I D K n I' D' K' n') (hc : CH I D K n 9 r) (h1 : r 1 ≤ 8) (h0 : r 0 ≤ 8) : CH I' D' K' n' 9 r := hc.move h1 h0 (HF.self (h.1 9 (by omega) (by omega)) (h.1 10 (by omega) (by omega)) (h.1 11 (by omega) (by omega)) (h.2.1 12 (by omega))) h.2.2
theorem Inv.dreamE (h : Inv I D K n N) (f : FE I D K n I' D' K' n') (dv : DV D' K' n') {s : Int32} {J : Nat → Nat → Int32} (g : FM (va_up I' 0 (upd (I' 0) 15 s)) J) (hs : J 162 1 = s) : Inv J D' K' n' (N + 1) := by
  have q : ∀ x, (x < 16 ∨ 23 < x) → x < 177 → x ≠ 0 → x ≠ 162 → x ≠ 168 → x ≠ 171 → x ≠ 172 → J x = I x := fun x a a' b c d e f' => by rw [g.1 x c d e f', va_up_ne _ _ b, f.1 x a a']
  have q0 : J 0 = upd (I 0) 15 s := by rw [g.1 0 (by decide) (by decide) (by decide) (by decide), va_up_self, f.1 0 (by omega) (by omega)]
  refine h.frame (by omega) ⟨fun x hx => ?_, fun j a b => by rw [q0, pk_un (by omega)], by rw [q 2 (by omega) (by omega) (by decide) (by decide) (by decide) (by decide) (by decide)], fun j hj => ?_⟩ (fun x a b c => f.2.1 x (by omega)) (f.2.2.trans (DK.of (fun q' hq => by rw [g.1 q' (by omega) (by omega) (by omega) (by omega), va_up_ne _ _ (by omega)]))) dv ?_
  · unfold obs at hx
    exact q x (by omega) (by omega) (by omega) (by omega) (by omega) (by omega) (by omega)
  · rw [g.2 j (by omega) (by omega) (by omega), va_up_ne _ _ (by decide), f.1 162 (by omega) (by omega)]
  · rw [q0, pk_us, hs]
/-- a house gets a door anew in a place -/
theorem CH.door {a k s v f t : Nat} (ha : isH a) (h : CH I D K n a r) {row : Nat → Int32} {kc : Nat} (hr : NDr row (nI k) (nI f) (nI t) (nI v)) (hkc : isD kc = true) (hs : kd kc = s) {R : Ro} (hR : ∀ j, j < 14 → R j = r j) (hR2 : ∀ j, j < r 0 → j ≠ k → ∀ w, w < 4 → R (14 + w + 5 * j) = r (14 + w + 5 * j)) (hR4 : ∀ j, j < r 0 → R (18 + 5 * j) = r (18 + 5 * j)) (q0 : R (14 + 5 * k) = s) (q1 : R (15 + 5 * k) = f) (q2 : R (16 + 5 * k) = t) (q3 : R (17 + 5 * k) = v) (h18 : r 1 ≤ 8) : CH (va_up I (177 + n) row) (va_up D (a + 3) (va_up (D (a + 3)) k (some (177 + n)))) (va_up K (177 + n) kc) (n + 1) a R := by
  have hl := isH_lt ha
  obtain ⟨⟨a3, a4, a5, a6, a7, a8⟩, b1, b2', b3'⟩ := h
  have e : ∀ x, x < 177 → va_up I (177 + n) row x = I x := fun x hx => va_up_ne _ _ (by omega)
  refine ⟨⟨?_, ?_, ?_, ?_, ?_, ?_⟩, ?_, ?_, ?_⟩
  · rw [e a (by omega), hR 1 (by omega)]; exact a3
  · rw [e a (by omega), hR 0 (by omega)]; exact a4
  · rw [e a (by omega), hR 2 (by omega)]; exact a5
  · rw [e a (by omega), hR 3 (by omega)]; exact a6
  · rw [e a (by omega), hR 4 (by omega)]; exact a7
  · rw [e a (by omega), hR 5 (by omega)]; exact a8
  · intro j hj
    rw [hR 1 (by omega)] at hj
    rw [e (a + 1) (by omega), hR (6 + j) (by omega)]; exact b1 j hj
  · intro j hj
    rw [hR 0 (by omega)] at hj
    rw [e (a + 2) (by omega), hR4 j hj]; exact b2' j hj
  · intro j hj
    rw [hR 0 (by omega)] at hj
    by_cases jk : j = k
    · subst jk
      refine ⟨177 + n, by rw [va_up_self, va_up_self], ⟨by omega, by omega, by rw [va_up_self]; exact hkc⟩, ?_, ?_, ?_, ?_, ?_⟩
      · rw [va_up_self, q0]; exact hs
      · rw [va_up_self]; exact hr.1
      · rw [va_up_self, q1]; exact hr.2.1
      · rw [va_up_self, q2]; exact hr.2.2.1
      · rw [va_up_self, q3]; exact hr.2.2.2
    · obtain ⟨q, c1, c2⟩ := b3' j hj
      have c2 := c2.more (DK.new (I := I) (K := K) (n := n) row kc)
      obtain ⟨d1, d2, d3, d4, d5, d6⟩ := c2
      have w0 := hR2 j hj jk 0 (by omega)
      have w1 := hR2 j hj jk 1 (by omega)
      have w2 := hR2 j hj jk 2 (by omega)
      have w3 := hR2 j hj jk 3 (by omega)
      simp only [Nat.add_zero, Nat.reduceAdd] at w0 w1 w2 w3
      exact ⟨q, by rw [va_up_self, va_up_ne _ _ jk]; exact c1, d1, by rw [w0]; exact d2, d3, by rw [w1]; exact d4, by rw [w2]; exact d5, by rw [w3]; exact d6⟩
theorem DV.door {a k : Nat} (ha : isH a) (h : DV D K n) (row : Nat → Int32) {kc : Nat} (hkc : isD kc = true) : DV (va_up D (a + 3) (va_up (D (a + 3)) k (some (177 + n)))) (va_up K (177 + n) kc) (n + 1) := by
  intro b hb j q hj hq
  have old := fun (q' : D (b + 3) j = some q) => (h b hb j q hj q').more (DK.new (I := fun _ _ => 0) (K := K) (n := n) row kc)
  by_cases e : b + 3 = a + 3
  · rw [e, va_up_self] at hq
    by_cases jk : j = k
    · subst jk
      rw [va_up_self] at hq
      cases hq
      exact ⟨by omega, by omega, by rw [va_up_self]; exact hkc⟩
    · rw [va_up_ne _ _ jk, ← e] at hq
      exact old hq
  · rw [va_up_ne _ _ e] at hq
    exact old hq
theorem c_change {k s v : Nat} (hc : CH I D K n 17 r) (h18 : r 1 ≤ 8) (h08 : r 0 ≤ 8) (hD : DV D K n) (hk : k < r 0) (s1 : 1 ≤ s) (s5 : s ≤ 5) : ∃ I2 D2 K2 n2, f_X3_changeDoor (enc I D K n Z) 17 (nI k) (nI s) (nI v) = some (enc I2 D2 K2 n2 Z) ∧ CH I2 D2 K2 n2 17 (uN (uN r (14 + 5 * k) s) (17 + 5 * k) v) ∧ FE I D K n I2 D2 K2 n2 ∧ DV D2 K2 n2 := by
  obtain ⟨q, hq1, hq2⟩ := hc.2.2.2 k hk
  obtain ⟨row, kc, e1, e2, e3, e4⟩ := c_of (I := I) (D := D) (K := K) (n := n) (Z := Z) s1 s5 (nI k) (nI (r (15 + 5 * k))) (nI (r (16 + 5 * k))) (nI v)
  have ea : astq (enc (va_up I (177 + n) row) D (va_up K (177 + n) kc) (n + 1) Z) 20 4 (nI k) (some (177 + n)) = some (enc (va_up I (177 + n) row) (va_up D 20 (va_up (D 20) k (some (177 + n)))) (va_up K (177 + n) kc) (n + 1) Z) := astq_e (s_H3 h17) k _ (fun q' hq' => by
    cases hq'
    exact ⟨by omega, by omega, by rw [va_up_self]; exact e3⟩) (by omega) (by decide)
  refine ⟨va_up I (177 + n) row, va_up D 20 (va_up (D 20) k (some (177 + n))), va_up K (177 + n) kc, n + 1, ?_, ?_, ?_, ?_⟩
  rotate_left
  · exact hc.door h17 (R := uN (uN r (14 + 5 * k) s) (17 + 5 * k) v) e2 e3 e4 (fun j hj => by rw [uN_n _ (by omega), uN_n _ (by omega)]) (fun j _ hj w hw => by rw [uN_n _ (by omega), uN_n _ (by omega)]) (fun j _ => by rw [uN_n _ (by omega), uN_n _ (by omega)]) (by rw [uN_n _ (by omega), uN_s]) (by rw [uN_n _ (by omega), uN_n _ (by omega)]) (by rw [uN_n _ (by omega), uN_n _ (by omega)]) (uN_s _ _ _) h18
  · exact ⟨fun x _ hx => va_up_ne _ _ (by omega), fun x hx => va_up_ne _ _ hx, DK.new row kc⟩
  · exact hD.door h17 row e3
  · simp only [f_X3_changeDoor, c17, bA_s, c_doorAt_in h17 h08 hc.1.2.1 hk, b2_s, hq1, r17_2, gD_e hq2.1 0 (by decide), gD_e hq2.1 1 (by decide), gD_e hq2.1 2 (by decide), hq2.2.2.1, hq2.2.2.2.1, hq2.2.2.2.2.1, e1, ea]
end NewDoor
