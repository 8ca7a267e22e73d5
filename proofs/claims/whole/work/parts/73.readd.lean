section ReadD
variable {T : Nat → Nat} {t : Nat} {I : Nat → Nat → Int32} {D : Nat → Nat → Option Nat} {K : Nat → Nat} {n : Nat} {Z : Nat → Cl} {r : Ro}
theorem h4 : isH 4 := Or.inl rfl
theorem c_law (ht : TO T t) (h : Cs T t I (0, 0)) : ∃ I', f_X7_readLaw (enc I D K n Z) 2 = some (enc I' D K n Z) ∧ Cs T t I' (pl7 T t) ∧ (∀ x, x ≠ 2 → x ≠ 4 → I' x = I x) ∧ (∀ j, j ≠ 5 → j ≠ 6 → j ≠ 7 → I' 4 j = I 4 j) ∧ ((pl7 T t).2 = 0 → I' 4 5 = nI (lawR T t 2) ∧ I' 4 6 = nI (lawR T t 3) ∧ I' 4 7 = nI (lawR T t 4)) := by
  obtain ⟨I1, a1, a2, a3⟩ := c_sign (D := D) (K := K) (n := n) (Z := Z) ht h (104 : Int32) 104 rfl (by decide)
  obtain ⟨y2, I2, b1, b2, b3, b4⟩ := c_num (D := D) (K := K) (n := n) (Z := Z) ht a2 (1 : Int32) (9 : Int32) (-1 : Int32) 1 9 rfl rfl (by decide) (by decide)
  obtain ⟨J2, e2⟩ : ∃ J, va_up I2 4 (upd (I2 4) 5 y2) = J := ⟨_, rfl⟩
  have s2 : Cs T t J2 (pl2 T t) := by rw [← e2]; exact Cs.keep b2 (va_up_ne _ _ (by decide)) (va_up_ne _ _ (by decide))
  obtain ⟨I3, d1, d2, d3⟩ := c_sign (D := D) (K := K) (n := n) (Z := Z) ht s2 (44 : Int32) 44 rfl (by decide)
  obtain ⟨y4, I4, f1, f2, f3, f4⟩ := c_num (D := D) (K := K) (n := n) (Z := Z) ht d2 (1 : Int32) (60 : Int32) (-1 : Int32) 1 60 rfl rfl (by decide) (by decide)
  obtain ⟨J4, e4⟩ : ∃ J, va_up I4 4 (upd (I4 4) 6 y4) = J := ⟨_, rfl⟩
  have s4 : Cs T t J4 (pl4 T t) := by rw [← e4]; exact Cs.keep f2 (va_up_ne _ _ (by decide)) (va_up_ne _ _ (by decide))
  obtain ⟨I5, j1, j2, j3⟩ := c_sign (D := D) (K := K) (n := n) (Z := Z) ht s4 (44 : Int32) 44 rfl (by decide)
  obtain ⟨y6, I6, k1, k2, k3, k4⟩ := c_num (D := D) (K := K) (n := n) (Z := Z) ht j2 (0 : Int32) (63 : Int32) (-1 : Int32) 0 63 rfl rfl (by decide) (by decide)
  obtain ⟨J6, e6⟩ : ∃ J, va_up I6 4 (upd (I6 4) 7 y6) = J := ⟨_, rfl⟩
  have s6 : Cs T t J6 (pl6 T t) := by rw [← e6]; exact Cs.keep k2 (va_up_ne _ _ (by decide)) (va_up_ne _ _ (by decide))
  obtain ⟨I7, m1, m2, m3⟩ := c_sign (D := D) (K := K) (n := n) (Z := Z) ht s6 (59 : Int32) 59 rfl (by decide)
  have q : I7 4 = upd (upd (upd (I 4) 5 y2) 6 y4) 7 y6 := by
    rw [m3 4 (by decide), ← e6, va_up_self, k3 4 (by decide), j3 4 (by decide), ← e4, va_up_self, f3 4 (by decide), d3 4 (by decide), ← e2, va_up_self, b3 4 (by decide), a3 4 (by decide)]
  refine ⟨I7, ?_, m2, fun x hx hy => ?_, fun j g1 g2 g3 => ?_, fun z => ?_⟩
  · simp only [f_X7_readLaw, c2, bA_s, a1, r2_1, b1, b2_s, p4_5, e2, d1, f1, p4_6, e4, j1, k1, p4_7, e6, m1]
  · rw [m3 x hx, ← e6, va_up_ne _ _ hy, k3 x hx, j3 x hx, ← e4, va_up_ne _ _ hy, f3 x hx, d3 x hx, ← e2, va_up_ne _ _ hy, b3 x hx, a3 x hx]
  · rw [q, pk_un g3, pk_un g2, pk_un g1]
  · obtain ⟨z2, z4, z6⟩ := pl_ok z
    rw [lawR_2, lawR_3, lawR_4]
    refine ⟨?_, ?_, ?_⟩
    · rw [q, pk_un (by decide), pk_un (by decide), pk_us]; exact b4 z2
    · rw [q, pk_un (by decide), pk_us]; exact f4 z4
    · rw [q, pk_us]; exact k4 z6
theorem c_addR (hc : CH I D K n 4 r) (h8 : r 1 < 8) (h0 : r 0 = 0) {y : Int32} {w : Nat} (hy : y = nI w) : ∃ I', f_X3_addRoom (enc I D K n Z) 4 y = some (enc I' D K n Z) ∧ CH I' D K n 4 (addR r w) ∧ ∀ x, x ≠ 4 → x ≠ 5 → I' x = I x := by
  subst hy
  have e : ¬ (8 : Int32) ≤ nI (r 1) := nI_ge (b := 8) h8 (by decide)
  simp only [f_X3_addRoom, g4_3, bA_s, hc.1.1, if_neg e, r4_0, t5 (r 1) _ h8, va_up_ne _ _ (show 4 ≠ 5 by decide), p4_3, z_i2]
  refine ⟨_, rfl, ?_, fun x hx hy => by rw [va_up_ne _ _ hx, va_up_ne _ _ hy]⟩
  obtain ⟨⟨a3, a4, a5, a6, a7, a8⟩, b1, b2', b3'⟩ := hc
  have e0 : addR r w 0 = 0 := by rw [addR_o (by decide) (by omega), h0]
  refine ⟨⟨?_, ?_, ?_, ?_, ?_, ?_⟩, ?_, ?_, ?_⟩
  · rw [va_up_self, pk_us, addR_1]
  · rw [va_up_self, pk_un (by decide), a4, e0, h0]
  · rw [va_up_self, pk_un (by decide), a5, addR_o (by decide) (by omega)]
  · rw [va_up_self, pk_un (by decide), a6, addR_o (by decide) (by omega)]
  · rw [va_up_self, pk_un (by decide), a7, addR_o (by decide) (by omega)]
  · rw [va_up_self, pk_un (by decide), a8, addR_o (by decide) (by omega)]
  · intro k hk
    rw [addR_1] at hk
    rw [va_up_ne _ _ (by decide), va_up_self]
    by_cases ek : k = r 1
    · subst ek; rw [pk_us, addR_w]
    · rw [pk_un ek, addR_o (by omega) (by omega)]; exact b1 k (by omega)
  · intro k hk; omega
  · intro k hk; omega
theorem CH.cells {I' : Nat → Nat → Int32} {a : Nat} (h : CH I D K n a r) (h1 : r 1 ≤ 8) (h0 : r 0 ≤ 8) (e : I' a = I a) (e1 : I' (a + 1) = I (a + 1)) (e2 : I' (a + 2) = I (a + 2)) (eq : ∀ q, 177 ≤ q → I' q = I q) : CH I' D K n a r := h.move h1 h0 (HF.self e e1 e2 rfl) (DK.of eq)
theorem c_room (ht : TO T t) {s : PS} (h : Cs T t I s) (hc : CH I D K n 4 r) (h18 : r 1 ≤ 8) (h0 : r 0 = 0) : ∃ I', f_X7_readRoom (enc I D K n Z) 2 = some (enc I' D K n Z) ∧ Cs T t I' (pRm T t (s, r)).1 ∧ ((pRm T t (s, r)).1.2 = 0 → CH I' D K n 4 (pRm T t (s, r)).2) ∧ (∀ y, y ≠ 2 → y ≠ 4 → y ≠ 5 → I' y = I y) := by
  have i0 : ∃ I0, (if nI (r 1) < (8 : Int32) then some (enc I D K n Z) else bA (isC (enc I D K n Z) 2 6) fun u15 => bA (f_X7_fail (enc I D K n Z) 2 (3 : Int32)) fun h9 => some h9) = some (enc I0 D K n Z) ∧ Cs T t I0 (rq0 s r) ∧ ∀ x, x ≠ 2 → I0 x = I x := by
    by_cases c : r 1 < 8
    · refine ⟨I, by rw [if_pos (show nI (r 1) < (8 : Int32) from nI_lt (b := 8) c (by decide))], ?_, fun _ _ => rfl⟩
      rw [rq0, if_neg (by omega)]; exact h
    · obtain ⟨J, j1, j2, j3⟩ := c_fail (D := D) (K := K) (n := n) (Z := Z) h (3 : Int32) 3 rfl (by decide)
      refine ⟨J, ?_, ?_, j3⟩
      · rw [if_neg (show ¬ nI (r 1) < (8 : Int32) from nI_nlt (b := 8) (by omega) (by omega)), c2, bA_s, j1, bA_s]
      · rw [rq0, if_pos (by omega)]; exact j2
  obtain ⟨I0, i1, i2, i3⟩ := i0
  obtain ⟨I1, a1, a2, a3⟩ := c_sign (D := D) (K := K) (n := n) (Z := Z) ht i2 (114 : Int32) 114 rfl (by decide)
  obtain ⟨y, I2, b1, b2, b3, b4⟩ := c_num (D := D) (K := K) (n := n) (Z := Z) ht a2 (0 : Int32) (20 : Int32) (-1 : Int32) 0 20 rfl rfl (by decide) (by decide)
  obtain ⟨I3, d1, d2, d3⟩ := c_sign (D := D) (K := K) (n := n) (Z := Z) ht b2 (59 : Int32) 59 rfl (by decide)
  have d2 : Cs T t I3 (rq3 T t s r) := d2
  have f3 : ∀ x, x ≠ 2 → I3 x = I x := fun x hx => by rw [d3 x hx, b3 x hx, a3 x hx, i3 x hx]
  have ez : (nI (rq3 T t s r).2 = (0 : Int32)) = ((rq3 T t s r).2 = 0) := z_eq (by have := d2.2.2.2.2.2; omega) (by decide)
  have hc3 : CH I3 D K n 4 r := hc.cells h18 (by omega) (f3 _ (by decide)) (f3 _ (by decide)) (f3 _ (by decide)) (fun q hq => f3 q (by omega))
  simp only [f_X7_readRoom, r2_1, bA_s, g4_3, hc.1.1]
  rw [i1]
  simp only [bA_s, c2, a1, b1, b2_s, d1, g2_4, d2.2.2.1, ez]
  by_cases z : (rq3 T t s r).2 = 0
  · have hy : y = nI (nvN T t (rq1 T t s r).1) := b4 (rq_ok z).2.1
    obtain ⟨I4, k1, k2, k3⟩ := c_addR (Z := Z) hc3 (rq_ok z).1 h0 hy
    simp only [if_pos z, r2_1, bA_s, c4, k1]
    refine ⟨I4, rfl, ?_, fun _ => ?_, fun x x2 x4 x5 => by rw [k3 x x4 x5, f3 x x2]⟩
    · exact Cs.keep d2 (k3 2 (by decide) (by decide)) (k3 3 (by decide) (by decide))
    · rw [(pRm_ok (x := (s, r)) z).2.2]; exact k2
  · simp only [if_neg z, bA_s]
    exact ⟨I3, rfl, d2, fun q => absurd q z, fun x x2 _ _ => f3 x x2⟩
theorem c_rooms_L (ht : TO T t) : ∀ (c fuel j : Nat) (I : Nat → Nat → Int32) (x : PR), c < fuel → j + c ≤ 100 → Cs T t I x.1 → (x.1.2 = 0 → CH I D K n 4 x.2 ∧ x.2 1 ≤ 8 ∧ x.2 0 = 0 ∧ 9 ≤ x.2 1 + c) → ∃ I' i, (∀ (β : Type) (kk : Int32 → Hp → Option β), f_X7_read_L23 kk 2 fuel (enc I D K n Z) (nI j) = kk i (enc I' D K n Z)) ∧ Cs T t I' (pRl T t c x).1 ∧ ((pRl T t c x).1.2 = 0 → CH I' D K n 4 (pRl T t c x).2) ∧ (∀ y, y ≠ 2 → y ≠ 4 → y ≠ 5 → I' y = I y) := by
  intro c
  induction c with
  | zero =>
    intro fuel j I x hf hj h hx
    obtain ⟨f, rfl⟩ : ∃ f, fuel = f + 1 := ⟨fuel - 1, by omega⟩
    have z : ¬ x.1.2 = 0 := fun z => by have := hx z; omega
    have ez : (nI x.1.2 = (0 : Int32)) = (x.1.2 = 0) := z_eq (by have := h.2.2.2.2.2; omega) (by decide)
    have n110 : ¬ (110 : Int32) ≤ nI j := nI_ge (b := 110) (by omega) (by decide)
    refine ⟨I, nI j, fun β kk => ?_, h, fun q => absurd q z, fun _ _ _ _ => rfl⟩
    rw [f_X7_read_L23, if_neg n110, g2_4, bA_s, h.2.2.1, if_neg (by rw [ez]; exact z)]
  | succ c ih =>
    intro fuel j I x hf hj h hx
    obtain ⟨f, rfl⟩ : ∃ f, fuel = f + 1 := ⟨fuel - 1, by omega⟩
    have ez : (nI x.1.2 = (0 : Int32)) = (x.1.2 = 0) := z_eq (by have := h.2.2.2.2.2; omega) (by decide)
    have n110 : ¬ (110 : Int32) ≤ nI j := nI_ge (b := 110) (by omega) (by decide)
    have un : ∀ (β : Type) (kk : Int32 → Hp → Option β), f_X7_read_L23 kk 2 (f + 1) (enc I D K n Z) (nI j) = (if x.1.2 = 0 then bA (isC (enc I D K n Z) 2 6) fun u35 => b2 (f_X7_sees (enc I D K n Z) 2 (114 : Int32)) fun r31 h29 => (if r31 = 0 then kk (nI j) h29 else bA (isC h29 2 6) fun u45 => bA (f_X7_readRoom h29 2 ) fun h39 => f_X7_read_L23 kk 2 f h39 (nI j + (1 : Int32))) else kk (nI j) (enc I D K n Z)) := fun β kk => by
      rw [f_X7_read_L23, if_neg n110, g2_4, bA_s, h.2.2.1]
      simp only [ez]
    rw [pRl]
    by_cases z : x.1.2 = 0
    · obtain ⟨x1, x2, x3, x4⟩ := hx z
      by_cases y : x.1.1 < t ∧ T x.1.1 = 114
      · obtain ⟨I1, k1, k2, k3, k4⟩ := c_room (Z := Z) ht h x1 x2 x3
        have k2 : Cs T t I1 (pRm T t x).1 := k2
        have k3 : (pRm T t x).1.2 = 0 → CH I1 D K n 4 (pRm T t x).2 := k3
        obtain ⟨I2, i, m1, m2, m3, m4⟩ := ih f (j + 1) I1 (pRm T t x) (by omega) (by omega) k2 (fun q => by
          obtain ⟨p1, p2, p3⟩ := pRm_ok q
          refine ⟨k3 q, ?_, ?_, ?_⟩
          · rw [p3, addR_1]; omega
          · rw [p3, addR_o (by decide) (by omega)]; exact x3
          · rw [p3, addR_1]; omega)
        rw [if_pos ⟨z, y⟩]
        refine ⟨I2, i, fun β kk => ?_, m2, m3, fun w w2 w4 w5 => by rw [m4 w w2 w4 w5, k4 w w2 w4 w5]⟩
        rw [un, if_pos z, c2, bA_s, c_sees ht h (114 : Int32) 114 rfl (by decide), b2_s, if_pos y, if_neg one0, c2, bA_s, k1, bA_s, z_i2]
        exact m1 β kk
      · rw [if_neg (fun q => y q.2)]
        refine ⟨I, nI j, fun β kk => ?_, h, fun _ => x1, fun _ _ _ _ => rfl⟩
        rw [un, if_pos z, c2, bA_s, c_sees ht h (114 : Int32) 114 rfl (by decide), b2_s, if_neg y, if_pos rfl]
    · rw [if_neg (fun q => z q.1)]
      refine ⟨I, nI j, fun β kk => ?_, h, fun q => absurd q z, fun _ _ _ _ => rfl⟩
      rw [un, if_neg z]
theorem c_addD (hc : CH I D K n 4 r) (h8 : r 0 < 8) (h18 : r 1 ≤ 8) (hD : DV D K n) {s f b v : Nat} (s1 : 1 ≤ s) (s5 : s ≤ 5) : ∃ I' D' K' n', f_X3_addDoor (enc I D K n Z) 4 (nI s) (nI f) (nI b) (nI v) = some (enc I' D' K' n' Z) ∧ CH I' D' K' n' 4 (addD r s f b v) ∧ DV D' K' n' ∧ DK I K n I' K' n' ∧ (∀ x, x < 177 → x ≠ 4 → x ≠ 6 → I' x = I x) ∧ (∀ x, x ≠ 7 → D' x = D x) := by
  obtain ⟨row, kc, e1, e2, e3, e4⟩ := c_of (I := I) (D := D) (K := K) (n := n) (Z := Z) s1 s5 (nI (r 0)) (nI f) (nI b) (nI v)
  have ea : astq (enc (va_up I (177 + n) row) D (va_up K (177 + n) kc) (n + 1) Z) 7 4 (nI (r 0)) (some (177 + n)) = some (enc (va_up I (177 + n) row) (va_up D 7 (va_up (D 7) (r 0) (some (177 + n)))) (va_up K (177 + n) kc) (n + 1) Z) := astq_e (s_H3 h4) (r 0) _ (fun q' hq' => by
    cases hq'
    exact ⟨by omega, by omega, by rw [va_up_self]; exact e3⟩) (by omega) (by decide)
  have hDK := DK.new (I := I) (K := K) (n := n) row kc
  have hDV : DV (va_up D 7 (va_up (D 7) (r 0) (some (177 + n)))) (va_up K (177 + n) kc) (n + 1) := hD.door h4 row e3
  have j0 : ∀ x, x < 177 → va_up I (177 + n) row x = I x := fun x hx => va_up_ne _ _ (by omega)
  have jr : va_up I (177 + n) row (177 + n) = row := va_up_self _ _ _
  generalize va_up I (177 + n) row = J at *
  have e8 : ¬ (8 : Int32) ≤ nI (r 0) := nI_ge (b := 8) h8 (by decide)
  have j4 : J 4 = I 4 := j0 4 (by omega)
  simp only [f_X3_addDoor, g4_4, bA_s, hc.1.2.1, if_neg e8, r4_2, e1, b2_s, ea, r4_1, j4, t6 (r 0) _ h8, va_up_ne _ _ (show 4 ≠ 6 by decide), p4_4, z_i2]
  obtain ⟨⟨a3, a4, a5, a6, a7, a8⟩, b1, b2', b3'⟩ := hc
  have ek := addD_k r s f b v
  refine ⟨_, _, _, _, rfl, ⟨⟨?_, ?_, ?_, ?_, ?_, ?_⟩, ?_, ?_, ?_⟩, hDV, ?_, ?_, fun x hx => va_up_ne _ _ hx⟩
  · rw [va_up_self, pk_un (by decide), a3, addD_o (by decide) (by omega)]
  · rw [va_up_self, pk_us, addD_0]
  · rw [va_up_self, pk_un (by decide), a5, addD_o (by decide) (by omega)]
  · rw [va_up_self, pk_un (by decide), a6, addD_o (by decide) (by omega)]
  · rw [va_up_self, pk_un (by decide), a7, addD_o (by decide) (by omega)]
  · rw [va_up_self, pk_un (by decide), a8, addD_o (by decide) (by omega)]
  · intro k hk
    rw [addD_o (by decide) (by omega)] at hk
    rw [va_up_ne _ _ (by decide), va_up_ne _ _ (by decide), j0 _ (by decide), b1 k hk, addD_o (by omega) (by omega)]
  · intro k hk
    rw [addD_0] at hk
    rw [va_up_ne _ _ (by decide), va_up_self]
    by_cases c : k = r 0
    · subst c; rw [pk_us, ek.2.2.2.2]; rfl
    · rw [pk_un c, j0 6 (by decide), addD_o (by omega) (by omega)]; exact b2' k (by omega)
  · intro k hk
    rw [addD_0] at hk
    by_cases c : k = r 0
    · subst c
      refine ⟨177 + n, by rw [va_up_self, va_up_self], ⟨by omega, by omega, by rw [va_up_self]; exact e3⟩, ?_, ?_, ?_, ?_, ?_⟩
      · rw [va_up_self, ek.1]; exact e4
      · rw [va_up_ne _ _ (by omega), va_up_ne _ _ (by omega), jr]; exact e2.1
      · rw [va_up_ne _ _ (by omega), va_up_ne _ _ (by omega), jr, ek.2.1]; exact e2.2.1
      · rw [va_up_ne _ _ (by omega), va_up_ne _ _ (by omega), jr, ek.2.2.1]; exact e2.2.2.1
      · rw [va_up_ne _ _ (by omega), va_up_ne _ _ (by omega), jr, ek.2.2.2.1]; exact e2.2.2.2
    · obtain ⟨q, c1, c2'⟩ := b3' k (by omega)
      obtain ⟨d1, d2, d3, d4, d5, d6⟩ := c2'.more hDK
      have hq := d1.1
      refine ⟨q, ?_, d1, ?_, ?_, ?_, ?_, ?_⟩
      · rw [va_up_self, va_up_ne _ _ c]; exact c1
      · rw [addD_o (by omega) (by omega)]; exact d2
      · rw [va_up_ne _ _ (by omega), va_up_ne _ _ (by omega)]; exact d3
      · rw [va_up_ne _ _ (by omega), va_up_ne _ _ (by omega), addD_o (by omega) (by omega)]; exact d4
      · rw [va_up_ne _ _ (by omega), va_up_ne _ _ (by omega), addD_o (by omega) (by omega)]; exact d5
      · rw [va_up_ne _ _ (by omega), va_up_ne _ _ (by omega), addD_o (by omega) (by omega)]; exact d6
  · refine ⟨hDK.1, fun q h1 h2 => ⟨?_, (hDK.2 q h1 h2).2⟩⟩
    rw [va_up_ne _ _ (by omega), va_up_ne _ _ (by omega)]; exact (hDK.2 q h1 h2).1
  · intro x hx x4 x6
    rw [va_up_ne _ _ x4, va_up_ne _ _ x6, j0 x hx]
end ReadD
