/-! THE CLASS'S ERRAND, WHOLE -/
def itm (f : Nat → Int32) (a : Nat) : Nat → List Int32
  | 0 => []
  | m + 1 => f a :: itm f (a + 1) m
theorem WOK_wOpen {s : WS} {N k : Nat} (h : WOK s N) (hk : k < s.1 0) (hn : k ∉ s.2.2.2.2.1) : WOK (wOpen s k).1 N := by
  unfold wOpen
  split
  · exact h
  · split
    · exact h
    · exact WOK_opened h hk hn
theorem wOpen_keep {s : WS} {k : Nat} : (wOpen s k).1.2.1 = s.2.1 ∧ ∀ j, (∀ t, j ≠ 18 + 5 * t) → (wOpen s k).1.1 j = s.1 j := by
  unfold wOpen
  split
  · exact ⟨rfl, fun _ _ => rfl⟩
  · split
    · exact ⟨rfl, fun _ _ => rfl⟩
    · exact ⟨rfl, fun j hj => uN_n _ (hj k)⟩
theorem WOK_wPass {s : WS} {N : Nat} (h : WOK s N) (x : Int32) : WOK (wPass s x).1 N := by
  unfold wPass
  split
  · next hx =>
    obtain ⟨k, hk, rfl⟩ := (ix_in (m := s.1 0) (by have := h.1.2.1.2; omega)).mp hx
    rw [nI_clamp (by have := h.1.2.1.2; omega)]
    unfold wPassK
    split
    · next hr =>
      split
      · exact WOK_through h hk hr
      · next hn =>
        split
        · have hk2 := wOpen_keep (s := s) (k := k)
          refine WOK_through (WOK_wOpen h hk hn) ?_ ?_
          · rw [hk2.2 0 (fun t => by omega)]; exact hk
          · rw [hk2.1, hk2.2 (15 + 5 * k) (fun t => by omega), hk2.2 (16 + 5 * k) (fun t => by omega)]; exact hr
        · exact WOK_wOpen h hk hn
    · exact h
  · exact h
section WalkG
variable {I : Nat → Nat → Int32} {D : Nat → Nat → Option Nat} {K : Nat → Nat} {n : Nat} {Z : Nat → Cl}
theorem DR.rows {q k : Nat} {r r2 : Ro} (h : DR I K n q k r) (e : ∀ w, w < 4 → r2 (14 + w + 5 * k) = r (14 + w + 5 * k)) : DR I K n q k r2 := by
  obtain ⟨h1, h2, h3, h4, h5, h6⟩ := h
  have c0 := e 0 (by decide)
  have c1 := e 1 (by decide)
  have c2 := e 2 (by decide)
  have c3 := e 3 (by decide)
  simp only [Nat.add_zero, Nat.reduceAdd] at c0 c1 c2 c3
  exact ⟨h1, by rw [c0]; exact h2, h3, by rw [c1]; exact h4, by rw [c2]; exact h5, by rw [c3]; exact h6⟩
theorem CW_room {wa : Nat} (hW : isW wa) {s : WS} (hs : CW I D K n wa s) (m : Nat) : CW (va_up I wa (upd (I wa) 5 (nI m))) D K n wa (s.1, m, s.2.2) := by
  obtain ⟨⟨⟨a3, a4, a5, a6, a7, a8⟩, b1, b2, b3⟩, ⟨w3, w4, w5, w6, w7, w8⟩, o1, l1, l2⟩ := hs
  have f : ∀ x, x ≠ wa → va_up I wa (upd (I wa) 5 (nI m)) x = I x := fun x hx => va_up_ne _ _ hx
  refine ⟨⟨⟨?_, ?_, ?_, ?_, ?_, ?_⟩, ?_, ?_, ?_⟩, ⟨?_, ?_, ?_, ?_, ?_, ?_⟩, ?_, ?_, ?_⟩
  · rw [f (wa + 1) (by omega)]; exact a3
  · rw [f (wa + 1) (by omega)]; exact a4
  · rw [f (wa + 1) (by omega)]; exact a5
  · rw [f (wa + 1) (by omega)]; exact a6
  · rw [f (wa + 1) (by omega)]; exact a7
  · rw [f (wa + 1) (by omega)]; exact a8
  · intro k hk; rw [f (wa + 1 + 1) (by omega)]; exact b1 k hk
  · intro k hk; rw [f (wa + 1 + 2) (by omega)]; exact b2 k hk
  · intro k hk
    obtain ⟨q, h1, h2⟩ := b3 k hk
    refine ⟨q, h1, h2.keep (f q ?_)⟩
    have := h2.1.1
    rcases hW with rfl | rfl <;> omega
  · rw [va_up_self, pk_un (by decide)]; exact w3
  · rw [va_up_self, pk_un (by decide)]; exact w4
  · rw [va_up_self, pk_us]
  · rw [va_up_self, pk_un (by decide)]; exact w6
  · rw [va_up_self, pk_un (by decide)]; exact w7
  · rw [va_up_self, pk_un (by decide)]; exact w8
  · intro i hi; rw [f (wa + 7) (by omega)]; exact o1 i hi
  · rw [f (wa + 5) (by omega)]; exact l1
  · intro i hi; rw [f (wa + 6) (by omega)]; exact l2 i hi
set_option maxRecDepth 100000 in
set_option maxHeartbeats 4000000 in
theorem c_pass {wa : Nat} (hW : isW wa) {s : WS} {N : Nat} (hs : CW I D K n wa s) (hok : WOK s N) (x : Int32) : ∃ I', f_X10_pass (enc I D K n Z) wa x = some (nI (wPass s x).2, enc I' D K n Z) ∧ CW I' D K n wa (wPass s x).1 ∧ FrW wa I I' ∧ I' wa 9 = I wa 9 ∧ I' wa 10 = I wa 10 := by
  have hH := isW_H hW
  have hd8 := hok.1.2.1.2
  have hr8 := hok.1.1.2
  have hs0 := hs
  obtain ⟨⟨⟨a3, a4, a5, a6, a7, a8⟩, b1, b2, b3⟩, ⟨w3, w4, w5, w6, w7, w8⟩, o1, l1, l2⟩ := hs0
  by_cases hx : 0 ≤ x.toInt ∧ x.toInt < s.1 0
  · obtain ⟨k, hk, rfl⟩ := (ix_in (m := s.1 0) (by omega)).mp hx
    have e0 : wPass s (nI k) = wPassK s k := by unfold wPass; rw [if_pos hx, nI_clamp (by omega)]
    rw [e0]
    obtain ⟨q, hq1, hq2⟩ := b3 k hk
    obtain ⟨u1, u2, u3, u4, u5, u6⟩ := hok.1.2.2.2.2.2.2 k hk
    have hrm := hok.2.1
    have hq177 := hq2.1.1
    have hqw : q ≠ wa := by rcases hW with rfl | rfl <;> omega
    simp only [f_X10_pass, gN_e (s_W hW) 0 rfl, isC_e (s_H hH), bA_s, c_doorAt_in hH hd8 a4 hk, b2_s, hq1, gI_e (s_W hW) 5 rfl, w5, gC_e hq2.1, d_leads hq2 s.2.1 (by omega) (by omega) (by omega)]
    by_cases hr : s.2.1 = s.1 (15 + 5 * k) ∨ s.2.1 = s.1 (16 + 5 * k)
    · rw [if_pos hr, if_neg (by decide)]
      have hob : obits s.2.2.2.2.1 < 2 ^ 8 := obits_lt (fun j hj => by have := hok.2.2.2.2.1.2 j hj; omega)
      simp only [gI_e (s_W hW) 4 rfl, w4, gD_e hq2.1 0 (by decide), hq2.2.2.1, bA_s]
      by_cases hin : k ∈ s.2.2.2.2.1
      · have hne : ¬ ((nI (obits s.2.2.2.2.1) >>> (nI k &&& 31)) &&& (1 : Int32)) = 0 := by
          rw [bit_z (by omega) (by omega), obits_tb]; simp [hin]
        rw [if_neg hne]
        simp only [b2_s, if_true, gI_e (s_W hW) 5 rfl, w5, bA_s, gC_e hq2.1, d_beyond hq2 s.2.1 (by omega) (by omega), pV_e (s_W hW) 5 rfl]
        have e1 : wPassK s k = (through s k, 0) := by unfold wPassK; rw [if_pos hr, if_pos hin]
        rw [e1]
        have em : (if s.2.1 = s.1 (15 + 5 * k) then s.1 (16 + 5 * k) else s.1 (15 + 5 * k)) = s.1 (15 + 5 * k) + s.1 (16 + 5 * k) - s.2.1 := by split <;> omega
        rw [em]
        refine ⟨_, rfl, CW_room hW hs _, fun y h1 _ _ _ _ => va_up_ne _ _ h1, ?_, ?_⟩
        · rw [va_up_self, pk_un (by decide)]
        · rw [va_up_self, pk_un (by decide)]
      · have heq : ((nI (obits s.2.2.2.2.1) >>> (nI k &&& 31)) &&& (1 : Int32)) = 0 := by
          rw [bit_z (by omega) (by omega), obits_tb]; simp [hin]
        rw [if_pos heq]
        obtain ⟨I1, g1, g2, g3, g4, g5⟩ := c_open (Z := Z) hW hs hok hk hin hq2
        simp only [isC_e (s_W hW), bA_s, g1, b2_s]
        have hle : (wOpen s k).2 < 2 ^ 31 := by
          unfold wOpen
          split
          · show 7 < 2 ^ 31; decide
          · split
            · show 8 < 2 ^ 31; decide
            · show (if _ then 9 else if _ then 10 else 0) < 2 ^ 31
              split
              · decide
              · split <;> decide
        have hzero : (0 : Int32) = nI 0 := by decide
        have hkp := wOpen_keep (s := s) (k := k)
        by_cases hf : (wOpen s k).2 = 0
        · rw [hf]
          have e1 : wPassK s k = (through (wOpen s k).1 k, 0) := by unfold wPassK; rw [if_pos hr, if_neg hin, if_pos hf]
          rw [e1]
          have hI1q : I1 q = I q := g3 q hqw (by rcases hW with rfl | rfl <;> omega) (by rcases hW with rfl | rfl <;> omega) (by rcases hW with rfl | rfl <;> omega) (by rcases hW with rfl | rfl <;> omega)
          have hw5 : I1 wa 5 = nI (wOpen s k).1.2.1 := g2.2.1.2.2.1
          rw [if_pos (show nI 0 = (0 : Int32) by decide)]
          simp only [gI_e (s_W hW) 5 rfl, hw5, hkp.1, bA_s, gC_e hq2.1, d_beyond (hq2.keep hI1q) s.2.1 (by omega) (by omega), b2_s, pV_e (s_W hW) 5 rfl]
          have em : (if s.2.1 = s.1 (15 + 5 * k) then s.1 (16 + 5 * k) else s.1 (15 + 5 * k)) = s.1 (15 + 5 * k) + s.1 (16 + 5 * k) - s.2.1 := by split <;> omega
          rw [em]
          have ht : through (wOpen s k).1 k = ((wOpen s k).1.1, s.1 (15 + 5 * k) + s.1 (16 + 5 * k) - s.2.1, (wOpen s k).1.2.2) := by
            unfold through
            rw [hkp.1, hkp.2 (15 + 5 * k) (fun t => by omega), hkp.2 (16 + 5 * k) (fun t => by omega)]
          rw [ht]
          refine ⟨_, rfl, CW_room hW g2 _, fun y h1 h2 h3 h4 h5 => (va_up_ne _ _ h1).trans (g3 y h1 h2 h3 h4 h5), ?_, ?_⟩
          · rw [va_up_self, pk_un (by decide)]; exact g4
          · rw [va_up_self, pk_un (by decide)]; exact g5
        · have e1 : wPassK s k = wOpen s k := by unfold wPassK; rw [if_pos hr, if_neg hin, if_neg hf]
          rw [e1]
          have hne : ¬ nI (wOpen s k).2 = 0 := by rw [hzero, nI_eq hle (by decide)]; exact hf
          rw [if_neg hne]
          exact ⟨I1, rfl, g2, g3, g4, g5⟩
    · rw [if_neg hr, if_pos rfl]
      have e1 : wPassK s k = (s, 6) := by unfold wPassK; rw [if_neg hr]
      rw [e1]
      exact ⟨I, rfl, hs, fun _ _ _ _ _ _ => rfl, rfl, rfl⟩
  · have e0 : wPass s x = (s, 6) := by unfold wPass; rw [if_neg hx]
    rw [e0]
    simp only [f_X10_pass, gN_e (s_W hW) 0 rfl, isC_e (s_H hH), bA_s, c_doorAt_out hH hd8 a4 hx, b2_s]
    exact ⟨I, rfl, hs, fun _ _ _ _ _ _ => rfl, rfl, rfl⟩
end WalkG
