/-! THE CLASS'S ERRAND: its contract -/
theorem sub_one (x : Int32) : x + (-1 : Int32) = x - 1 := by rw [Int32.sub_eq_add_neg]
theorem neg_one_lt : nI 0 - (1 : Int32) < 0 := by decide
section WalkI
variable {I : Nat → Nat → Int32} {D : Nat → Nat → Option Nat} {K : Nat → Nat} {n : Nat} {Z : Nat → Cl}
theorem c_go_L106 {wa : Nat} (hW : isW wa) (kk : Int32 → Hp → Option Hp) (x1 : Nat) (x2 x3 : Int32) {op : List Nat} (h8 : op.length ≤ 8) : ∀ (m fuel : Nat) (I : Nat → Nat → Int32) (l : List Nat), m ≤ op.length → m < fuel → LG I (wa + 5) l → l.length + m ≤ 17 → (∀ i, i < op.length → I (wa + 7) i = nI (op.getD i 0)) → ∃ I' y, f_X10_go_L106 kk wa x1 x2 x3 fuel (enc I D K n Z) (nI m - 1) = kk y (enc I' D K n Z) ∧ LG I' (wa + 5) (l ++ ((op.take m).reverse.map (fun k => 200 + k))) ∧ (∀ x, x ≠ wa + 5 → x ≠ wa + 6 → I' x = I x) := by
  intro m
  induction m with
  | zero =>
    intro fuel I l hm hf hl hlen ho
    obtain ⟨f, rfl⟩ : ∃ f, fuel = f + 1 := ⟨fuel - 1, by omega⟩
    rw [f_X10_go_L106, if_pos neg_one_lt]
    exact ⟨I, _, rfl, by simpa using hl, fun _ _ _ => rfl⟩
  | succ m ih =>
    intro fuel I l hm hf hl hlen ho
    obtain ⟨f, rfl⟩ : ∃ f, fuel = f + 1 := ⟨fuel - 1, by omega⟩
    have hNu : isNu (wa + 5) 17 := by rcases hW with rfl | rfl <;> simp [isNu]
    rw [f_X10_go_L106, nI_pred, if_neg (nI_pos (by omega))]
    simp only [gN_e (s_W hW) 1 rfl, gN_e (s_W hW) 2 rfl, bA_s, ald_n (s_W7 hW) m (by omega) (by decide), ho m (by omega), isC_e (s_W5 hW), show (200 : Int32) = nI 200 by decide, nI_add]
    obtain ⟨I1, g1, g2, g3⟩ := LG_add (D := D) (K := K) (n := n) (Z := Z) hNu hl (by omega) (200 + op.getD m 0)
    simp only [g1, bA_s, sub_one]
    obtain ⟨I2, y, k1, k2, k3⟩ := ih f I1 (l ++ [200 + op.getD m 0]) (by omega) (by omega) g2 (by rw [List.length_append]; simp only [List.length_cons, List.length_nil]; omega) (fun i hi => by rw [g3 (wa + 7) (by omega) (by omega)]; exact ho i hi)
    refine ⟨I2, y, k1, ?_, fun x h1 h2 => (k3 x h1 h2).trans (g3 x h1 h2)⟩
    have e : (op.take (m + 1)).reverse.map (fun k => 200 + k) = (200 + op.getD m 0) :: (op.take m).reverse.map (fun k => 200 + k) := by
      have hlt : m < op.length := by omega
      rw [List.take_succ_eq_append_getElem hlt, List.reverse_append]
      simp [List.getD_eq_getElem?_getD, List.getElem?_eq_getElem hlt]
    rw [e]
    rw [List.append_assoc] at k2
    exact k2
theorem wTake_op (p : WS × Nat) : (wTake p).1.2 = p.1.2 := by
  unfold wTake
  split
  · split <;> rfl
  · rfl
theorem wTake_f {p : WS × Nat} (h : p.2 < 2 ^ 31) : (wTake p).2.1 < 2 ^ 31 := by
  unfold wTake
  split
  · split
    · show 11 < 2 ^ 31; decide
    · show 0 < 2 ^ 31; decide
  · exact h
theorem wTake_w (p : WS × Nat) : (wTake p).2.1 ≠ 0 → (wTake p).2.2 = 0 := by
  unfold wTake
  split
  · split
    · intro _; rfl
    · intro h; exact absurd rfl h
  · intro _; rfl
theorem wf_take {p : WS × Nat} {N : Nat} (h : wf p.1.1 N) (hr : p.1.2.1 < p.1.1 1) : wf (wTake p).1.1 N := by
  unfold wTake
  split
  · split
    · exact h
    · obtain ⟨h1, h2, h3, h4, h5, h6, h7⟩ := h
      have hr8 : p.1.2.1 < 8 := by omega
      have o0 : ∀ j, j ≠ 5 → j ≠ 6 + p.1.2.1 → uN (uN p.1.1 (6 + p.1.2.1) 0) 5 (p.1.1 5 + p.1.1 (6 + p.1.2.1)) j = p.1.1 j := fun j h1 h2 => by rw [uN_n _ h1, uN_n _ h2]
      have o6 : uN (uN p.1.1 (6 + p.1.2.1) 0) 5 (p.1.1 5 + p.1.1 (6 + p.1.2.1)) (6 + p.1.2.1) = 0 := by rw [uN_n _ (by omega), uN_s]
      show wf (uN (uN p.1.1 (6 + p.1.2.1) 0) 5 (p.1.1 5 + p.1.1 (6 + p.1.2.1))) N
      generalize uN (uN p.1.1 (6 + p.1.2.1) 0) 5 (p.1.1 5 + p.1.1 (6 + p.1.2.1)) = R at o0 o6
      refine ⟨?_, ?_, ?_, ?_, ?_, ?_, ?_⟩
      · rw [o0 1 (by decide) (by omega)]; exact h1
      · rw [o0 0 (by decide) (by omega)]; exact h2
      · rw [o0 2 (by decide) (by omega)]; exact h3
      · rw [o0 3 (by decide) (by omega)]; exact h4
      · rw [o0 4 (by decide) (by omega)]; exact h5
      · intro k hk
        by_cases e : k = p.1.2.1
        · rw [e, o6]; omega
        · rw [o0 (6 + k) (by omega) (by omega)]; exact h6 k hk
      · intro k hk
        rw [o0 0 (by decide) (by omega)] at hk
        rw [o0 (14 + 5 * k) (by omega) (by omega), o0 (15 + 5 * k) (by omega) (by omega), o0 (16 + 5 * k) (by omega) (by omega), o0 (17 + 5 * k) (by omega) (by omega), o0 (18 + 5 * k) (by omega) (by omega), o0 1 (by decide) (by omega)]
        exact h7 k hk
  · exact h
theorem wf_go {r : Ro} {N : Nat} (h : wf r N) (hN : N ≤ 2000) (xs : List Int32) : wf (wGo r xs).1.1 (N + 1) := by
  have h1 := WOK_wRun xs (start r) (WOK_start h hN)
  exact wf_take h1.1 h1.2.1
/-- what an errand leaves in a walk -/
def CG (I : Nat → Nat → Int32) (wa : Nat) (g : WS × Nat × Nat) : Prop := I wa 3 = nI g.1.2.2.2.2.1.length ∧ I wa 5 = nI g.1.2.1 ∧ I wa 6 = nI g.1.2.2.1 ∧ I wa 7 = nI g.1.2.2.2.1 ∧ I wa 8 = nI g.1.2.2.2.2.2 ∧ I wa 9 = nI g.2.2 ∧ I wa 10 = nI g.2.1 ∧ LG I (wa + 5) (ledg g.1 g.2.1)
set_option maxRecDepth 100000 in
set_option maxHeartbeats 4000000 in
theorem c_go {wa : Nat} (hW : isW wa) {x1 m0 : Nat} (hx1 : shp K n x1 = some (.inr (.inl (0, m0)))) (hm0 : m0 < 2 ^ 30) (hx2 : x1 < wa ∨ wa + 7 < x1) {N : Nat} {r : Ro} (hc : CH I D K n (wa + 1) r) (hwf : wf r N) (hN : N ≤ 2000) {i n0 : Nat} (hin : i + n0 ≤ m0) (hn8 : n0 ≤ 8) : ∃ I', f_X10_go (enc I D K n Z) wa x1 (nI i) (nI n0) = some (enc I' D K n Z) ∧ CH I' D K n (wa + 1) (wGo r (itm (I x1) i n0)).1.1 ∧ CG I' wa (wGo r (itm (I x1) i n0)) ∧ FrG wa I I' := by
  obtain ⟨I1, bg1, bg2, bg3, bg4, bg5⟩ := c_begin (Z := Z) hW hc
  have hx1' : I1 x1 = I x1 := bg5 x1 (by omega) (by omega) (by omega) (by omega) (by omega)
  simp only [f_X10_go, isC_e (s_W hW), bA_s, bg1]
  obtain ⟨I2, y, c1, c2, c3, c4, c5⟩ := c_go_L7 (Z := Z) hW hx1 hm0 hx2 (fun y36 h35 => bA (gI h35 wa 9 10) fun g38 => bA (if g38 = 0 then bA (isC h35 wa 9) fun u49 => b2 (f_X10_take h35 wa) fun r45 h43 => bA (pV h43 wa 9 10 (.inl r45)) fun h53 => some h53 else some h35) fun h40 => bA (gI h40 wa 9 10) fun g55 => bA (if g55 = 0 then some h40 else bA (gN h40 wa 9 1) fun a61 => bA (gI h40 wa 9 10) fun g63 => bA (isC h40 a61 5) fun u70 => bA (f_X6_add h40 a61 ((400 : Int32) + g63)) fun h64 => some h64) fun h57 => bA (gI h57 wa 9 3) fun g74 => f_X10_go_L106 (fun y92 h91 => some h91) wa x1 (nI i) (nI n0) 2000 h57 (g74 - (1 : Int32))) hin (I x1) n0 2000 0 I1 (start r) (by omega) (by omega) bg2 (WOK_start hwf hN) bg4 hx1'
  rw [show nI 0 = (0 : Int32) by decide] at c1
  rw [c1]
  generalize hp : wRun (itm (I x1) (i + 0) n0) (start r) = p at c2 c3
  have hok : WOK p.1 N := by rw [← hp]; exact WOK_wRun _ _ (WOK_start hwf hN)
  have hpf : p.2 < 2 ^ 31 := by rw [← hp]; exact wRun_f _ _
  have hgo : wGo r (itm (I x1) i n0) = wTake p := by rw [← hp]; rfl
  rw [hgo]
  have hlen := hok.len
  have hz : nI 0 = (0 : Int32) := by decide
  have hNu : isNu (wa + 5) 17 := by rcases hW with rfl | rfl <;> simp [isNu]
  have hwa : wa ≤ 16 := by rcases hW with rfl | rfl <;> omega
  -- behind the doors
  have step : ∃ I3, (bA (if nI p.2 = 0 then bA (isC (enc I2 D K n Z) wa 9) fun u49 => b2 (f_X10_take (enc I2 D K n Z) wa) fun r45 h43 => bA (pV h43 wa 9 10 (.inl r45)) fun h53 => some h53 else some (enc I2 D K n Z)) fun h => some h) = some (enc I3 D K n Z) ∧ CH I3 D K n (wa + 1) (wTake p).1.1 ∧ I3 wa 9 = nI (wTake p).2.2 ∧ I3 wa 10 = nI (wTake p).2.1 ∧ (∀ j, j ≠ 9 → j ≠ 10 → I3 wa j = I2 wa j) ∧ I3 (wa + 7) = I2 (wa + 7) ∧ LG I3 (wa + 5) (p.1.2.2.2.2.1.map (fun k => 100 + k) ++ (if (wTake p).2.1 = 0 then [300 + p.1.2.1] else [])) ∧ FrG wa I2 I3 := by
    by_cases hf : p.2 = 0
    · have hpp : p = (p.1, 0) := by rw [← hf]
      rw [if_pos (show nI p.2 = 0 by rw [hf]; exact hz)]
      obtain ⟨I3, d1, d2, d3, d4, d5, d6, d7⟩ := c_take (Z := Z) hW c2 hok
      rw [← hpp] at d1 d2 d3 d6
      simp only [isC_e (s_W hW), bA_s, d1, b2_s, pV_e (s_W hW) 10 rfl]
      generalize hI4 : va_up I3 wa (upd (I3 wa) 10 (nI (wTake p).2.1)) = I4
      have f4 : ∀ x, x ≠ wa → I4 x = I3 x := fun x hx => by rw [← hI4, va_up_ne _ _ hx]
      have f4a : I4 wa = upd (I3 wa) 10 (nI (wTake p).2.1) := by rw [← hI4, va_up_self]
      obtain ⟨⟨a3, a4, a5, a6, a7, a8⟩, e1, e2, e3⟩ := d2
      refine ⟨I4, rfl, ⟨⟨?_, ?_, ?_, ?_, ?_, ?_⟩, ?_, ?_, ?_⟩, ?_, ?_, ?_, ?_, ?_, ?_⟩
      · rw [f4 _ (by omega)]; exact a3
      · rw [f4 _ (by omega)]; exact a4
      · rw [f4 _ (by omega)]; exact a5
      · rw [f4 _ (by omega)]; exact a6
      · rw [f4 _ (by omega)]; exact a7
      · rw [f4 _ (by omega)]; exact a8
      · intro k hk; rw [f4 _ (by omega)]; exact e1 k hk
      · intro k hk; rw [f4 _ (by omega)]; exact e2 k hk
      · intro k hk
        obtain ⟨q, h1, h2⟩ := e3 k hk
        have := h2.1.1
        exact ⟨q, h1, h2.keep (f4 q (by omega))⟩
      · rw [f4a, pk_un (by decide), d3]
        by_cases ht : (wTake p).2.1 = 0
        · rw [if_pos ht]
        · rw [if_neg ht, wTake_w p ht, c4, bg3]
      · rw [f4a, pk_us]
      · intro j h9 h10; rw [f4a, pk_un h10]; exact d4 j h9
      · rw [f4 _ (by omega)]; exact d5
      · exact ⟨by rw [f4 _ (by omega)]; exact d6.1, fun t ht => by rw [f4 _ (by omega)]; exact d6.2 t ht⟩
      · intro x hx; rw [f4 x (by omega)]; exact d7 x hx
    · have hne : ¬ nI p.2 = 0 := by rw [← hz, nI_eq hpf (by decide)]; exact hf
      have ht : wTake p = (p.1, p.2, 0) := by unfold wTake; rw [if_neg hf]
      rw [if_neg hne, ht]
      obtain ⟨hch, ⟨w3, w4, w5, w6, w7, w8⟩, o1, l1, l2⟩ := c2
      refine ⟨I2, rfl, hch, by rw [c4, bg3], c3, fun _ _ _ => rfl, rfl, ?_, fun _ _ => rfl⟩
      rw [if_neg hf, List.append_nil]
      refine ⟨by rw [List.length_map]; exact l1, fun t ht => ?_⟩
      rw [List.length_map] at ht
      show I2 (wa + 6) t = _
      rw [l2 t ht]
      simp [List.getD_eq_getElem?_getD, List.getElem?_map, List.getElem?_eq_getElem ht]
  obtain ⟨I3, s1, s2, s3, s4, s5, s6, s7, s8⟩ := step
  have s1' : (if nI p.2 = 0 then bA (isC (enc I2 D K n Z) wa 9) fun u49 => b2 (f_X10_take (enc I2 D K n Z) wa) fun r45 h43 => bA (pV h43 wa 9 10 (.inl r45)) fun h53 => some h53 else some (enc I2 D K n Z)) = some (enc I3 D K n Z) := by
    obtain ⟨a, ha, hb⟩ := bA_some s1
    rw [ha]; exact hb
  simp only [gI_e (s_W hW) 10 rfl, bA_s, c3, s1', s4]
  have hop : (wTake p).1.2 = p.1.2 := wTake_op p
  have htf := wTake_f hpf
  have w3 : I3 wa 3 = nI p.1.2.2.2.2.1.length := by rw [s5 3 (by decide) (by decide)]; exact c2.2.1.1
  have o3 : ∀ t, t < p.1.2.2.2.2.1.length → I3 (wa + 7) t = nI (p.1.2.2.2.2.1.getD t 0) := fun t ht => by rw [s6]; exact c2.2.2.1 t ht
  -- the outcome's number in the ledger
  have step2 : ∃ I4, (if nI (wTake p).2.1 = 0 then some (enc I3 D K n Z) else bA (gN (enc I3 D K n Z) wa 9 1) fun a61 => bA (some (nI (wTake p).2.1)) fun g63 => bA (isC (enc I3 D K n Z) a61 5) fun u70 => bA (f_X6_add (enc I3 D K n Z) a61 ((400 : Int32) + g63)) fun h64 => some h64) = some (enc I4 D K n Z) ∧ LG I4 (wa + 5) (p.1.2.2.2.2.1.map (fun k => 100 + k) ++ [if (wTake p).2.1 = 0 then 300 + p.1.2.1 else 400 + (wTake p).2.1]) ∧ (∀ x, x ≠ wa + 5 → x ≠ wa + 6 → I4 x = I3 x) := by
    by_cases ht : (wTake p).2.1 = 0
    · rw [if_pos (show nI (wTake p).2.1 = 0 by rw [ht]; exact hz)]
      rw [if_pos ht] at s7
      rw [if_pos ht]
      exact ⟨I3, rfl, s7, fun _ _ _ => rfl⟩
    · have hne : ¬ nI (wTake p).2.1 = 0 := by rw [← hz, nI_eq htf (by decide)]; exact ht
      rw [if_neg hne, if_neg ht]
      rw [if_neg ht, List.append_nil] at s7
      obtain ⟨I4, k1, k2, k3⟩ := LG_add (D := D) (K := K) (n := n) (Z := Z) hNu s7 (by rw [List.length_map]; omega) (400 + (wTake p).2.1)
      simp only [gN_e (s_W hW) 1 rfl, bA_s, isC_e (s_W5 hW), show (400 : Int32) = nI 400 by decide, nI_add, k1]
      exact ⟨I4, rfl, k2, k3⟩
  obtain ⟨I4, t1, t2, t3⟩ := step2
  simp only [bA_s] at t1
  simp only [t1, bA_s, gI_e (s_W hW) 3 rfl, t3 wa (by omega) (by omega), w3]
  obtain ⟨I5, y2, u1, u2, u3⟩ := c_go_L106 (D := D) (K := K) (n := n) (Z := Z) hW (fun y92 h91 => some h91) x1 (nI i) (nI n0) hlen p.1.2.2.2.2.1.length 2000 I4 _ (Nat.le_refl _) (by omega) t2 (by rw [List.length_append, List.length_map]; simp only [List.length_cons, List.length_nil]; omega) (fun t ht => by rw [t3 _ (by omega) (by omega)]; exact o3 t ht)
  have e5 : ∀ x, x ≠ wa + 5 → x ≠ wa + 6 → I5 x = I3 x := fun x h1 h2 => (u3 x h1 h2).trans (t3 x h1 h2)
  refine ⟨I5, u1, ?_, ⟨?_, ?_, ?_, ?_, ?_, ?_, ?_, ?_⟩, ?_⟩
  · obtain ⟨⟨a3, a4, a5, a6, a7, a8⟩, e1, e2, e3⟩ := s2
    refine ⟨⟨?_, ?_, ?_, ?_, ?_, ?_⟩, ?_, ?_, ?_⟩
    · rw [e5 _ (by omega) (by omega)]; exact a3
    · rw [e5 _ (by omega) (by omega)]; exact a4
    · rw [e5 _ (by omega) (by omega)]; exact a5
    · rw [e5 _ (by omega) (by omega)]; exact a6
    · rw [e5 _ (by omega) (by omega)]; exact a7
    · rw [e5 _ (by omega) (by omega)]; exact a8
    · intro k hk; rw [e5 _ (by omega) (by omega)]; exact e1 k hk
    · intro k hk; rw [e5 _ (by omega) (by omega)]; exact e2 k hk
    · intro k hk
      obtain ⟨q, h1, h2⟩ := e3 k hk
      have := h2.1.1
      exact ⟨q, h1, h2.keep (e5 q (by omega) (by omega))⟩
  · rw [e5 _ (by omega) (by omega), w3, hop]
  · rw [e5 _ (by omega) (by omega), s5 5 (by decide) (by decide), hop]; exact c2.2.1.2.2.1
  · rw [e5 _ (by omega) (by omega), s5 6 (by decide) (by decide), hop]; exact c2.2.1.2.2.2.1
  · rw [e5 _ (by omega) (by omega), s5 7 (by decide) (by decide), hop]; exact c2.2.1.2.2.2.2.1
  · rw [e5 _ (by omega) (by omega), s5 8 (by decide) (by decide), hop]; exact c2.2.1.2.2.2.2.2
  · rw [e5 _ (by omega) (by omega)]; exact s3
  · rw [e5 _ (by omega) (by omega)]; exact s4
  · have e : ledg (wTake p).1 (wTake p).2.1 = (p.1.2.2.2.2.1.map (fun k => 100 + k) ++ [if (wTake p).2.1 = 0 then 300 + p.1.2.1 else 400 + (wTake p).2.1]) ++ ((p.1.2.2.2.2.1.take p.1.2.2.2.2.1.length).reverse.map (fun k => 200 + k)) := by
      unfold ledg
      rw [hop, List.take_length, List.append_assoc]
    rw [e]; exact u2
  · intro x hx
    rw [e5 x (by omega) (by omega), s8 x hx, c5.G x hx, bg5.G x hx]
end WalkI
