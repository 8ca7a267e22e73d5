/-! THE CLASS'S ERRAND: taking, the ledger, the whole -/
def FrG (wa : Nat) (I I' : Nat → Nat → Int32) : Prop := ∀ x, (x < wa ∨ wa + 7 < x) → I' x = I x
theorem FrW.G {wa : Nat} {I I' : Nat → Nat → Int32} (h : FrW wa I I') : FrG wa I I' := fun x hx => h x (by omega) (by omega) (by omega) (by omega) (by omega)
theorem FrG.trans {wa : Nat} {I I' J : Nat → Nat → Int32} (h : FrG wa I I') (h2 : FrG wa I' J) : FrG wa I J := fun x hx => (h2 x hx).trans (h x hx)
def ledg (s : WS) (f : Nat) : List Nat := s.2.2.2.2.1.map (fun k => 100 + k) ++ ([if f = 0 then 300 + s.2.1 else 400 + f] ++ s.2.2.2.2.1.reverse.map (fun k => 200 + k))
/-- the ledger at a holds l -/
def LG (I : Nat → Nat → Int32) (a : Nat) (l : List Nat) : Prop := I a 1 = nI l.length ∧ ∀ i, i < l.length → I (a + 1) i = nI (l.getD i 0)
section WalkH
variable {I : Nat → Nat → Int32} {D : Nat → Nat → Option Nat} {K : Nat → Nat} {n : Nat} {Z : Nat → Cl}
theorem LG_add {a m : Nat} (hN : isNu a m) {l : List Nat} (h : LG I a l) (hm : l.length < m) (v : Nat) : ∃ I', f_X6_add (enc I D K n Z) a (nI v) = some (enc I' D K n Z) ∧ LG I' a (l ++ [v]) ∧ (∀ x, x ≠ a → x ≠ a + 1 → I' x = I x) := by
  refine ⟨_, c_add hN h.1 hm _, ⟨?_, fun i hi => ?_⟩, fun x h1 h2 => ?_⟩
  · rw [va_up_self, pk_us, List.length_append]; rfl
  · rw [va_up_ne _ _ (show a + 1 ≠ a by omega), va_up_self]
    rw [List.length_append] at hi
    simp only [List.length_cons, List.length_nil] at hi
    by_cases e : i = l.length
    · subst e; rw [pk_us]; simp [List.getD_eq_getElem?_getD]
    · rw [pk_un e, h.2 i (by omega)]
      simp [List.getD_eq_getElem?_getD, List.getElem?_append_left (show i < l.length by omega)]
  · rw [va_up_ne _ _ h1, va_up_ne _ _ h2]
set_option maxRecDepth 100000 in
set_option maxHeartbeats 4000000 in
theorem c_take {wa : Nat} (hW : isW wa) {s : WS} {N : Nat} (hs : CW I D K n wa s) (hok : WOK s N) : ∃ I', f_X10_take (enc I D K n Z) wa = some (nI (wTake (s, 0)).2.1, enc I' D K n Z) ∧ CH I' D K n (wa + 1) (wTake (s, 0)).1.1 ∧ I' wa 9 = (if (wTake (s, 0)).2.1 = 0 then nI (wTake (s, 0)).2.2 else I wa 9) ∧ (∀ j, j ≠ 9 → I' wa j = I wa j) ∧ I' (wa + 7) = I (wa + 7) ∧ LG I' (wa + 5) (s.2.2.2.2.1.map (fun k => 100 + k) ++ (if (wTake (s, 0)).2.1 = 0 then [300 + s.2.1] else [])) ∧ FrG wa I I' := by
  have hH := isW_H hW
  have hr8 := hok.1.1.2
  have hrm := hok.2.1
  have hlen := hok.len
  obtain ⟨⟨⟨a3, a4, a5, a6, a7, a8⟩, b1, b2, b3⟩, ⟨w3, w4, w5, w6, w7, w8⟩, o1, l1, l2⟩ := hs
  have hwt := hok.1.2.2.2.2.2.1 s.2.1 (by omega)
  have hLG : LG I (wa + 5) (s.2.2.2.2.1.map (fun k => 100 + k)) := by
    refine ⟨by rw [List.length_map]; exact l1, fun i hi => ?_⟩
    rw [List.length_map] at hi
    show I (wa + 6) i = _
    rw [l2 i hi]
    simp [List.getD_eq_getElem?_getD, List.getElem?_map, List.getElem?_eq_getElem hi]
  have hlr : f_X3_lacksRoom (enc I D K n Z) (wa + 1) (nI s.2.1) = some (0, enc I D K n Z) := by
    rw [c_lacksRoom hH hr8 a3, toInt_nI (by omega), if_pos (by omega)]
  have hb := b1 s.2.1 hrm
  simp only [f_X10_take, gN_e (s_W hW) 0 rfl, bA_s, gI_e (s_W hW) 5 rfl, w5, isC_e (s_H hH), hlr, b2_s, if_true, gN_e (s_H hH) 0 rfl, ald_n (s_H1 hH) s.2.1 (by omega) (by decide), hb]
  by_cases hz : s.1 (6 + s.2.1) = 0
  · have e : wTake (s, 0) = (s, 11, 0) := by unfold wTake; rw [if_pos rfl, if_pos hz]
    rw [e, hz, if_pos (show nI 0 = (0 : Int32) by decide)]
    refine ⟨I, rfl, ⟨⟨a3, a4, a5, a6, a7, a8⟩, b1, b2, b3⟩, by simp, fun _ _ => rfl, rfl, ?_, fun _ _ => rfl⟩
    simpa using hLG
  · have hne : ¬ nI (s.1 (6 + s.2.1)) = 0 := by
      rw [show (0 : Int32) = nI 0 by decide, nI_eq (by omega) (by decide)]; exact hz
    have e : wTake (s, 0) = ((uN (uN s.1 (6 + s.2.1) 0) 5 (s.1 5 + s.1 (6 + s.2.1)), s.2), 0, s.1 (6 + s.2.1)) := by unfold wTake; rw [if_pos rfl, if_neg hz]
    rw [e, if_neg hne]
    simp only [pV_e (s_W hW) 9 rfl, bA_s, gN_e (s_W hW) 0 rfl, gN_e (s_H hH) 0 rfl, gI_e (s_W hW) 5 rfl, va_up_self, pk_un (show 5 ≠ 9 by decide), w5, ast_n (s_H1 hH) s.2.1 _ (by omega) (by decide)]
    generalize hI1 : va_up I wa (upd (I wa) 9 (nI (s.1 (6 + s.2.1)))) = I1
    have f1 : ∀ x, x ≠ wa → I1 x = I x := fun x hx => by rw [← hI1, va_up_ne _ _ hx]
    have f1a : I1 wa = upd (I wa) 9 (nI (s.1 (6 + s.2.1))) := by rw [← hI1, va_up_self]
    generalize hI2 : va_up I1 (wa + 1 + 1) (upd (I1 (wa + 1 + 1)) s.2.1 0) = I2
    have f2 : ∀ x, x ≠ wa + 1 + 1 → I2 x = I1 x := fun x hx => by rw [← hI2, va_up_ne _ _ hx]
    have f2w : I2 (wa + 1 + 1) = upd (I (wa + 1 + 1)) s.2.1 0 := by rw [← hI2, va_up_self, f1 _ (by omega)]
    have f2a : I2 wa = upd (I wa) 9 (nI (s.1 (6 + s.2.1))) := by rw [f2 wa (by omega), f1a]
    have f2h : I2 (wa + 1) = I (wa + 1) := by rw [f2 _ (by omega), f1 _ (by omega)]
    simp only [gI_e (s_H hH) 8 rfl, bA_s, gI_e (s_W hW) 9 rfl, f2a, f2h, pk_us, a8, nI_add, pV_e (s_H hH) 8 rfl, gN_e (s_W hW) 1 rfl, gI_e (s_W hW) 5 rfl]
    generalize hI3 : va_up I2 (wa + 1) (upd (I (wa + 1)) 8 (nI (s.1 5 + s.1 (6 + s.2.1)))) = I3
    have f3 : ∀ x, x ≠ wa + 1 → I3 x = I2 x := fun x hx => by rw [← hI3, va_up_ne _ _ hx]
    have f3h : I3 (wa + 1) = upd (I (wa + 1)) 8 (nI (s.1 5 + s.1 (6 + s.2.1))) := by rw [← hI3, va_up_self]
    have f3a : I3 wa = upd (I wa) 9 (nI (s.1 (6 + s.2.1))) := by rw [f3 wa (by omega), f2a]
    have f3w : I3 (wa + 1 + 1) = upd (I (wa + 1 + 1)) s.2.1 0 := by rw [f3 _ (by omega), f2w]
    have f3o : ∀ x, x ≠ wa → x ≠ wa + 1 → x ≠ wa + 2 → I3 x = I x := fun x h1 h2 h3 => by rw [f3 x h2, f2 x h3, f1 x h1]
    simp only [f3a, pk_un (show 5 ≠ 9 by decide), w5, show (300 : Int32) = nI 300 by decide, nI_add]
    have hLG3 : LG I3 (wa + 5) (s.2.2.2.2.1.map (fun k => 100 + k)) := by
      refine ⟨by rw [f3o _ (by omega) (by omega) (by omega)]; exact hLG.1, fun i hi => ?_⟩
      rw [f3o _ (by omega) (by omega) (by omega)]; exact hLG.2 i hi
    have hNu : isNu (wa + 5) 17 := by rcases hW with rfl | rfl <;> simp [isNu]
    obtain ⟨I4, g1, g2, g3⟩ := LG_add (D := D) (K := K) (n := n) (Z := Z) hNu hLG3 (by rw [List.length_map]; omega) (300 + s.2.1)
    have g3' : ∀ x, x ≠ wa + 5 → x ≠ wa + 6 → I4 x = I3 x := g3
    simp only [isC_e (s_W5 hW), g1, bA_s]
    have o0 : ∀ j, j ≠ 5 → j ≠ 6 + s.2.1 → uN (uN s.1 (6 + s.2.1) 0) 5 (s.1 5 + s.1 (6 + s.2.1)) j = s.1 j := fun j h1 h2 => by rw [uN_n _ h1, uN_n _ h2]
    refine ⟨I4, rfl, ⟨⟨?_, ?_, ?_, ?_, ?_, ?_⟩, ?_, ?_, ?_⟩, ?_, ?_, ?_, ?_, ?_⟩
    · rw [g3' _ (by omega) (by omega), f3h, pk_un (by decide), a3]; exact congrArg nI (o0 1 (by decide) (by omega)).symm
    · rw [g3' _ (by omega) (by omega), f3h, pk_un (by decide), a4]; exact congrArg nI (o0 0 (by decide) (by omega)).symm
    · rw [g3' _ (by omega) (by omega), f3h, pk_un (by decide), a5]; exact congrArg nI (o0 2 (by decide) (by omega)).symm
    · rw [g3' _ (by omega) (by omega), f3h, pk_un (by decide), a6]; exact congrArg nI (o0 3 (by decide) (by omega)).symm
    · rw [g3' _ (by omega) (by omega), f3h, pk_un (by decide), a7]; exact congrArg nI (o0 4 (by decide) (by omega)).symm
    · rw [g3' _ (by omega) (by omega), f3h, pk_us]; exact congrArg nI (uN_s _ _ _).symm
    · intro k hk
      have hk : k < uN (uN s.1 (6 + s.2.1) 0) 5 (s.1 5 + s.1 (6 + s.2.1)) 1 := hk
      rw [o0 1 (by decide) (by omega)] at hk
      rw [g3' _ (by omega) (by omega), f3w]
      show upd (I (wa + 1 + 1)) s.2.1 0 k = nI (uN (uN s.1 (6 + s.2.1) 0) 5 (s.1 5 + s.1 (6 + s.2.1)) (6 + k))
      by_cases hkr : k = s.2.1
      · subst hkr; rw [pk_us, uN_n _ (by omega), uN_s]; decide
      · rw [pk_un hkr, o0 (6 + k) (by omega) (by omega)]; exact b1 k hk
    · intro k hk
      have hk : k < uN (uN s.1 (6 + s.2.1) 0) 5 (s.1 5 + s.1 (6 + s.2.1)) 0 := hk
      rw [o0 0 (by decide) (by omega)] at hk
      rw [g3' _ (by omega) (by omega), f3o _ (by omega) (by omega) (by omega)]
      show _ = nI (uN (uN s.1 (6 + s.2.1) 0) 5 (s.1 5 + s.1 (6 + s.2.1)) (18 + 5 * k))
      rw [o0 _ (by omega) (by omega)]; exact b2 k hk
    · intro k hk
      have hk : k < uN (uN s.1 (6 + s.2.1) 0) 5 (s.1 5 + s.1 (6 + s.2.1)) 0 := hk
      rw [o0 0 (by decide) (by omega)] at hk
      obtain ⟨q, h1, h2⟩ := b3 k hk
      have hq177 := h2.1.1
      have hwa : wa ≤ 16 := by rcases hW with rfl | rfl <;> omega
      refine ⟨q, h1, (h2.keep ?_).rows (fun w hw => o0 _ (by omega) (by omega))⟩
      rw [g3' q (by omega) (by omega), f3o q (by omega) (by omega) (by omega)]
    · rw [if_pos trivial, g3' _ (by omega) (by omega), f3a, pk_us]
    · intro j hj
      rw [g3' _ (by omega) (by omega), f3a, pk_un hj]
    · rw [g3' _ (by omega) (by omega), f3o _ (by omega) (by omega) (by omega)]
    · rw [if_pos trivial]; exact g2
    · intro x hx
      rw [g3' x (by omega) (by omega), f3o x (by omega) (by omega) (by omega)]
theorem c_begin {wa : Nat} (hW : isW wa) {r : Ro} (hc : CH I D K n (wa + 1) r) : ∃ I', f_X10_begin (enc I D K n Z) wa = some (enc I' D K n Z) ∧ CW I' D K n wa (start r) ∧ I' wa 9 = nI 0 ∧ I' wa 10 = nI 0 ∧ FrW wa I I' := by
  have hNu : isNu (wa + 5) 17 := by rcases hW with rfl | rfl <;> simp [isNu]
  simp only [f_X10_begin, gN_e (s_W hW) 1 rfl, bA_s, isC_e (s_W5 hW), c_clear hNu, pV_e (s_W hW) 3 rfl, pV_e (s_W hW) 4 rfl, pV_e (s_W hW) 5 rfl, pV_e (s_W hW) 6 rfl, pV_e (s_W hW) 7 rfl, pV_e (s_W hW) 8 rfl, pV_e (s_W hW) 9 rfl, pV_e (s_W hW) 10 rfl, bx_uu, va_up_self, va_up_ne I _ (show wa ≠ wa + 5 by omega)]
  generalize hR : upd (upd (upd (upd (upd (upd (upd (upd (I wa) 3 0) 4 0) 5 0) 6 0) 7 0) 8 0) 9 0) 10 0 = R
  have hR3 : ∀ j, 3 ≤ j → j ≤ 10 → R j = nI 0 := by
    intro j h1 h2
    rw [← hR]
    rcases (show j = 3 ∨ j = 4 ∨ j = 5 ∨ j = 6 ∨ j = 7 ∨ j = 8 ∨ j = 9 ∨ j = 10 by omega) with rfl | rfl | rfl | rfl | rfl | rfl | rfl | rfl <;> rfl
  generalize hI1 : va_up (va_up I (wa + 5) (upd (I (wa + 5)) 1 0)) wa R = I1
  have f1 : ∀ x, x ≠ wa → x ≠ wa + 5 → I1 x = I x := fun x h1 h2 => by rw [← hI1, va_up_ne _ _ h1, va_up_ne _ _ h2]
  have f1a : I1 wa = R := by rw [← hI1, va_up_self]
  have f15 : I1 (wa + 5) 1 = nI 0 := by rw [← hI1, va_up_ne _ _ (by omega), va_up_self]; rfl
  obtain ⟨⟨a3, a4, a5, a6, a7, a8⟩, b1, b2, b3⟩ := hc
  have hwa : wa ≤ 16 := by rcases hW with rfl | rfl <;> omega
  refine ⟨I1, rfl, ⟨⟨⟨?_, ?_, ?_, ?_, ?_, ?_⟩, ?_, ?_, ?_⟩, ⟨?_, ?_, ?_, ?_, ?_, ?_⟩, ?_, ?_, ?_⟩, ?_, ?_, ?_⟩
  · rw [f1 _ (by omega) (by omega)]; exact a3
  · rw [f1 _ (by omega) (by omega)]; exact a4
  · rw [f1 _ (by omega) (by omega)]; exact a5
  · rw [f1 _ (by omega) (by omega)]; exact a6
  · rw [f1 _ (by omega) (by omega)]; exact a7
  · rw [f1 _ (by omega) (by omega)]; exact a8
  · intro k hk; rw [f1 _ (by omega) (by omega)]; exact b1 k hk
  · intro k hk; rw [f1 _ (by omega) (by omega)]; exact b2 k hk
  · intro k hk
    obtain ⟨q, h1, h2⟩ := b3 k hk
    have := h2.1.1
    exact ⟨q, h1, h2.keep (f1 q (by omega) (by omega))⟩
  · rw [f1a]; exact hR3 3 (by decide) (by decide)
  · rw [f1a]; exact hR3 4 (by decide) (by decide)
  · rw [f1a]; exact hR3 5 (by decide) (by decide)
  · rw [f1a]; exact hR3 6 (by decide) (by decide)
  · rw [f1a]; exact hR3 7 (by decide) (by decide)
  · rw [f1a]; exact hR3 8 (by decide) (by decide)
  · intro i hi; exact absurd hi (Nat.not_lt_zero i)
  · exact f15
  · intro i hi; exact absurd hi (Nat.not_lt_zero i)
  · rw [f1a]; exact hR3 9 (by decide) (by decide)
  · rw [f1a]; exact hR3 10 (by decide) (by decide)
  · intro x h1 h2 h3 h4 h5; exact f1 x h1 h3
theorem wPass_f {s : WS} (x : Int32) : (wPass s x).2 < 2 ^ 31 := by
  have ho : ∀ k, (wOpen s k).2 < 2 ^ 31 := by
    intro k
    unfold wOpen
    split
    · show 7 < 2 ^ 31; decide
    · split
      · show 8 < 2 ^ 31; decide
      · show (if _ then 9 else if _ then 10 else 0) < 2 ^ 31
        split
        · decide
        · split <;> decide
  unfold wPass
  split
  · unfold wPassK
    split
    · split
      · show 0 < 2 ^ 31; decide
      · split
        · show 0 < 2 ^ 31; decide
        · exact ho _
    · show 6 < 2 ^ 31; decide
  · show 6 < 2 ^ 31; decide
theorem wRun_f : ∀ (xs : List Int32) (s : WS), (wRun xs s).2 < 2 ^ 31
  | [], s => by show 0 < 2 ^ 31; decide
  | x :: xs, s => by
    unfold wRun
    split
    · exact wRun_f xs _
    · exact wPass_f x
theorem WOK_wRun {N : Nat} : ∀ (xs : List Int32) (s : WS), WOK s N → WOK (wRun xs s).1 N
  | [], s, h => h
  | x :: xs, s, h => by
    unfold wRun
    split
    · exact WOK_wRun xs _ (WOK_wPass h x)
    · exact WOK_wPass h x
set_option maxRecDepth 100000 in
set_option maxHeartbeats 4000000 in
theorem c_go_L7 {wa : Nat} (hW : isW wa) {x1 m0 : Nat} (hx1 : shp K n x1 = some (.inr (.inl (0, m0)))) (hm0 : m0 < 2 ^ 30) (hx2 : x1 < wa ∨ wa + 7 < x1) {N : Nat} (kk : Int32 → Hp → Option Hp) {i n0 : Nat} (hin : i + n0 ≤ m0) (f0 : Nat → Int32) : ∀ (m fuel j : Nat) (I : Nat → Nat → Int32) (s : WS), j + m = n0 → m < fuel → CW I D K n wa s → WOK s N → I wa 10 = nI 0 → I x1 = f0 → ∃ I' y, f_X10_go_L7 kk wa x1 (nI i) (nI n0) fuel (enc I D K n Z) (nI j) = kk y (enc I' D K n Z) ∧ CW I' D K n wa (wRun (itm f0 (i + j) m) s).1 ∧ I' wa 10 = nI (wRun (itm f0 (i + j) m) s).2 ∧ I' wa 9 = I wa 9 ∧ FrW wa I I' := by
  intro m
  induction m with
  | zero =>
    intro fuel j I s hj hf hs hok h10 hf0
    obtain ⟨f, rfl⟩ : ∃ f, fuel = f + 1 := ⟨fuel - 1, by omega⟩
    refine ⟨I, nI j, ?_, hs, h10, rfl, fun _ _ _ _ _ _ => rfl⟩
    rw [f_X10_go_L7, if_pos (nI_le (by omega) (by omega))]
  | succ m ih =>
    intro fuel j I s hj hf hs hok h10 hf0
    obtain ⟨f, rfl⟩ : ∃ f, fuel = f + 1 := ⟨fuel - 1, by omega⟩
    rw [f_X10_go_L7, if_neg (nI_ge (by omega) (by omega))]
    have hz : nI 0 = (0 : Int32) := by decide
    simp only [gI_e (s_W hW) 10 rfl, bA_s, h10, hz, if_true, nI_add]
    rw [if_neg (nI_pos (show i + j < 2 ^ 31 by omega))]
    simp only [aln_e hx1, bA_s]
    rw [if_neg (nI_ge (show i + j < m0 by omega) (by omega))]
    simp only [ald_n hx1 (i + j) (by omega) (by omega), bA_s, isC_e (s_W hW), hf0]
    obtain ⟨I1, g1, g2, g3, g4, g5⟩ := c_pass (Z := Z) hW hs hok (f0 (i + j))
    simp only [g1, b2_s, pV_e (s_W hW) 10 rfl, bA_s, z_i2]
    generalize hI2 : va_up I1 wa (upd (I1 wa) 10 (nI (wPass s (f0 (i + j))).2)) = I2
    have f2 : ∀ x, x ≠ wa → I2 x = I1 x := fun x hx => by rw [← hI2, va_up_ne _ _ hx]
    have f2a : I2 wa = upd (I1 wa) 10 (nI (wPass s (f0 (i + j))).2) := by rw [← hI2, va_up_self]
    have hwa : wa ≤ 16 := by rcases hW with rfl | rfl <;> omega
    have hcw : CW I2 D K n wa (wPass s (f0 (i + j))).1 := by
      obtain ⟨⟨⟨a3, a4, a5, a6, a7, a8⟩, b1, b2, b3⟩, ⟨w3, w4, w5, w6, w7, w8⟩, o1, l1, l2⟩ := g2
      refine ⟨⟨⟨?_, ?_, ?_, ?_, ?_, ?_⟩, ?_, ?_, ?_⟩, ⟨?_, ?_, ?_, ?_, ?_, ?_⟩, ?_, ?_, ?_⟩
      · rw [f2 _ (by omega)]; exact a3
      · rw [f2 _ (by omega)]; exact a4
      · rw [f2 _ (by omega)]; exact a5
      · rw [f2 _ (by omega)]; exact a6
      · rw [f2 _ (by omega)]; exact a7
      · rw [f2 _ (by omega)]; exact a8
      · intro k hk; rw [f2 _ (by omega)]; exact b1 k hk
      · intro k hk; rw [f2 _ (by omega)]; exact b2 k hk
      · intro k hk
        obtain ⟨q, h1, h2⟩ := b3 k hk
        have := h2.1.1
        exact ⟨q, h1, h2.keep (f2 q (by omega))⟩
      · rw [f2a, pk_un (by decide)]; exact w3
      · rw [f2a, pk_un (by decide)]; exact w4
      · rw [f2a, pk_un (by decide)]; exact w5
      · rw [f2a, pk_un (by decide)]; exact w6
      · rw [f2a, pk_un (by decide)]; exact w7
      · rw [f2a, pk_un (by decide)]; exact w8
      · intro t ht; rw [f2 _ (by omega)]; exact o1 t ht
      · rw [f2 _ (by omega)]; exact l1
      · intro t ht; rw [f2 _ (by omega)]; exact l2 t ht
    have h210 : I2 wa 10 = nI (wPass s (f0 (i + j))).2 := by rw [f2a, pk_us]
    have h29 : I2 wa 9 = I wa 9 := by rw [f2a, pk_un (by decide)]; exact g4
    have hfr : FrW wa I I2 := fun x h1 h2 h3 h4 h5 => by rw [f2 x h1]; exact g3 x h1 h2 h3 h4 h5
    have hx1' : I2 x1 = f0 := by rw [hfr x1 (by omega) (by omega) (by omega) (by omega) (by omega)]; exact hf0
    show ∃ I' y, f_X10_go_L7 kk wa x1 (nI i) (nI n0) f (enc I2 D K n Z) (nI (j + 1)) = kk y (enc I' D K n Z) ∧ CW I' D K n wa (wRun (f0 (i + j) :: itm f0 (i + j + 1) m) s).1 ∧ I' wa 10 = nI (wRun (f0 (i + j) :: itm f0 (i + j + 1) m) s).2 ∧ I' wa 9 = I wa 9 ∧ FrW wa I I'
    by_cases hff : (wPass s (f0 (i + j))).2 = 0
    · have e : wRun (f0 (i + j) :: itm f0 (i + j + 1) m) s = wRun (itm f0 (i + (j + 1)) m) (wPass s (f0 (i + j))).1 := by
        rw [wRun, if_pos hff]; rfl
      rw [e]
      obtain ⟨I3, y, k1, k2, k3, k4, k5⟩ := ih f (j + 1) I2 _ (by omega) (by omega) hcw (WOK_wPass hok _) (by rw [h210, hff]) hx1'
      exact ⟨I3, y, k1, k2, k3, by rw [k4, h29], fun x h1 h2 h3 h4 h5 => by rw [k5 x h1 h2 h3 h4 h5, hfr x h1 h2 h3 h4 h5]⟩
    · have e : wRun (f0 (i + j) :: itm f0 (i + j + 1) m) s = wPass s (f0 (i + j)) := by rw [wRun, if_neg hff]
      rw [e]
      obtain ⟨g, rfl⟩ : ∃ g, f = g + 1 := ⟨f - 1, by omega⟩
      rw [f_X10_go_L7]
      by_cases hjn : n0 ≤ j + 1
      · rw [if_pos (nI_le hjn (by omega))]
        exact ⟨I2, _, rfl, hcw, h210, h29, hfr⟩
      · rw [if_neg (nI_ge (show j + 1 < n0 by omega) (by omega))]
        have hne : ¬ nI (wPass s (f0 (i + j))).2 = 0 := by rw [← hz, nI_eq (wPass_f _) (by decide)]; exact hff
        simp only [gI_e (s_W hW) 10 rfl, bA_s, h210, if_neg hne]
        exact ⟨I2, _, rfl, hcw, h210, h29, hfr⟩
end WalkH
