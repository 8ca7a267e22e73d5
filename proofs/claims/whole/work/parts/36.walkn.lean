/-! THE REFERENCE'S ERRAND, WHOLE -/
theorem wOpen_lt (s : WS) (k : Nat) : (wOpen s k).2 < 2 ^ 31 := by
  unfold wOpen
  split
  · show 7 < 2 ^ 31; decide
  · split
    · show 8 < 2 ^ 31; decide
    · show (if _ then 9 else if _ then 10 else 0) < 2 ^ 31
      split
      · decide
      · split <;> decide
section WalkN
variable {I : Nat → Nat → Int32} {D : Nat → Nat → Option Nat} {K : Nat → Nat} {n : Nat} {Z : Nat → Cl} {ra k : Nat} {r : Ro}
theorem m_has {b : Nat} (hb : b < 2 ^ 31) (hk : k < 31) (h : Hp) : f_X12_has h (nI b) (nI k) = some (if b.testBit k = true then 1 else 0, h) := by
  simp only [f_X12_has, bit_1 hb hk]
  by_cases e : b.testBit k = true
  · rw [if_pos e, if_pos e]; rfl
  · rw [if_neg e, if_neg e]; rfl
set_option maxRecDepth 100000 in
set_option maxHeartbeats 4000000 in
theorem m_open (hR : isRa ra) {s : WS} {N : Nat} (hs : MW I ra s) (hok : WOK s N) (hg : GS s) (hk : k < s.1 0) (hn : k ∉ s.2.2.2.2.1) : ∃ I', f_X12_open (enc I D K n Z) 162 ra (nI k) = some (nI (wOpen s k).2, enc I' D K n Z) ∧ MW I' ra (wOpen s k).1 ∧ FrM ra I I' ∧ I' 162 25 = I 162 25 := by
  obtain ⟨I', g1, g2, g3, g4⟩ := m_tail (D := D) (K := K) (n := n) (Z := Z) hR hs hok hg hk hn
  obtain ⟨u1, u2, u3, u4, u5, u6⟩ := hok.1.2.2.2.2.2.2 k hk
  have hd8 := hok.1.2.1.2
  have hN := hok.2.2.2.2.2.2.2
  have hk8 : k < 8 := by omega
  have hM := hs.1
  have w5 := hok.1.2.2.2.2.1
  have hz : (0 : Int32) = nI 0 := by decide
  have l4 : ald (enc I D K n Z) ra 0 (4 : Int32) = some (nI (s.1 4)) := by rw [← hM 4 (by decide)]; exact ald_n (s_Ra hR) 4 (by decide) (by decide)
  have e6 : nI (s.1 (17 + 5 * k)) - nI (s.1 (17 + 5 * k)) / (6 : Int32) * (6 : Int32) = nI (s.1 (17 + 5 * k) % 6) := by
    rw [show (6 : Int32) = nI 6 by decide]; exact pk_rem (by omega) (by decide) (by decide)
  have h4 : (nI (s.1 (14 + 5 * k)) < (4 : Int32)) = (s.1 (14 + 5 * k) < 4) := z_lt (by omega) (by decide)
  have h5 : (nI (s.1 (14 + 5 * k)) = (5 : Int32)) = (s.1 (14 + 5 * k) = 5) := z_eq (by omega) (by decide)
  have hw0 : (nI (s.1 (18 + 5 * k)) ≤ (0 : Int32)) = (s.1 (18 + 5 * k) ≤ 0) := z_le (by omega) (by decide)
  simp only [mo_eq, m_of0 hR hM hk8, m_of3 hR hM hk8, m_of4 hR hM hk8, b2_s, h4, h5, hw0, l4, bA_s, e6, m_has (b := s.1 4) (by omega) (show s.1 (17 + 5 * k) % 6 < 31 by omega), g1]
  by_cases c4 : s.1 (14 + 5 * k) < 4
  · have e : wOpen s k = (opened s k, if s.1 3 < s.2.2.1 + loudN s.1 k then 9 else if s.1 2 < s.2.2.2.1 + gapN s.1 k then 10 else 0) := by
      unfold wOpen; rw [if_neg (by omega), if_neg (by omega)]
    rw [if_pos c4, bA_s, if_pos rfl, if_neg (show ¬ s.1 (14 + 5 * k) = 5 by omega), e]
    exact ⟨I', rfl, g2, g3, g4⟩
  · rw [if_neg c4, bA_s, if_neg (by decide)]
    by_cases cb : (s.1 4).testBit (s.1 (17 + 5 * k) % 6) = true
    · rw [if_pos cb, if_neg (by decide)]
      have ncl : ¬ (4 ≤ s.1 (14 + 5 * k) ∧ (s.1 4).testBit (s.1 (17 + 5 * k) % 6) = false) := by rw [cb]; simp
      by_cases c5 : s.1 (14 + 5 * k) = 5
      · rw [if_pos c5]
        by_cases cw : s.1 (18 + 5 * k) ≤ 0
        · have e : wOpen s k = (opened s k, if s.1 3 < s.2.2.1 + loudN s.1 k then 9 else if s.1 2 < s.2.2.2.1 + gapN s.1 k then 10 else 0) := by
            unfold wOpen; rw [if_neg ncl, if_neg (by omega)]
          rw [if_pos cw, e]
          exact ⟨I', rfl, g2, g3, g4⟩
        · have e : wOpen s k = (s, 8) := by
            unfold wOpen; rw [if_neg ncl, if_pos (by omega)]
          rw [if_neg cw, e]
          exact ⟨I, rfl, hs, FrM.rfl', rfl⟩
      · have e : wOpen s k = (opened s k, if s.1 3 < s.2.2.1 + loudN s.1 k then 9 else if s.1 2 < s.2.2.2.1 + gapN s.1 k then 10 else 0) := by
          unfold wOpen; rw [if_neg ncl, if_neg (by omega)]
        rw [if_neg c5, e]
        exact ⟨I', rfl, g2, g3, g4⟩
    · have e : wOpen s k = (s, 7) := by
        unfold wOpen; rw [if_pos ⟨by omega, by simpa using cb⟩]
      rw [if_neg cb, if_pos rfl, e]
      exact ⟨I, rfl, hs, FrM.rfl', rfl⟩
theorem MW_room (hR : isRa ra) {s : WS} (hs : MW I ra s) (m : Nat) : MW (va_up I 162 (upd (I 162) 24 (nI m))) ra (s.1, m, s.2.2) := by
  have hra : ra ≠ 162 ∧ ra ≠ 172 := by rcases hR with rfl | rfl <;> omega
  obtain ⟨hM, ⟨h21, h22, h23, h24⟩, h172⟩ := hs
  refine ⟨?_, ⟨?_, ?_, ?_, ?_⟩, ?_⟩
  · rw [va_up_ne _ _ hra.1]; exact hM
  · rw [va_up_self, pk_un (by decide)]; exact h21
  · rw [va_up_self, pk_un (by decide)]; exact h22
  · rw [va_up_self, pk_un (by decide)]; exact h23
  · rw [va_up_self, pk_us]
  · intro i hi; rw [va_up_ne _ _ (by decide)]; exact h172 i hi
/-- behind the question whether the door leads from here -/
def mg_tail (h12 : Hp) (x0 : Nat) (x1 : Nat) (x2 : Int32) : Option (Int32 × Hp) := bA (isC h12 x0 11) fun u29 => b2 (f_X12_isOpen h12 x0 x2) fun r25 h23 => b2 (if r25 = 0 then bA (isC h23 x0 11) fun u43 => b2 (f_X12_open h23 x0 x1 x2) fun r39 h37 => some (r39, h37) else some ((0 : Int32), h23)) fun j33 h34 => b2 (if j33 = 0 then b2 (f_X12_of h34 x1 x2 (1 : Int32)) fun r55 h53 => b2 (f_X12_of h53 x1 x2 (2 : Int32)) fun r63 h61 => bA (gI h61 x0 11 24) fun g70 => some (((r55 + r63) - g70), h61) else bA (gI h34 x0 11 24) fun g52 => some (g52, h34)) fun j47 h48 => bA (pV h48 x0 11 24 (.inl j47)) fun h72 => some (j33, h72)
theorem mg_eq (h : Hp) (x0 : Nat) (x1 : Nat) (x2 : Int32) : f_X12_goThrough h x0 x1 x2 = bA (ald h x1 0 (0 : Int32)) fun v1 => b2 (f_X12_in h x2.toInt64 (0 : Int64) ((v1 - (1 : Int32)).toInt64)) fun r5 h3 => (if r5 = 0 then some ((6 : Int32), h3) else b2 (f_X12_of h3 x1 x2 (1 : Int32)) fun r14 h12 => bA (gI h12 x0 11 24) fun g21 => (if r14 = g21 then mg_tail h12 x0 x1 x2 else b2 (f_X12_of h12 x1 x2 (2 : Int32)) fun r75 h73 => bA (gI h73 x0 11 24) fun g82 => (if r75 = g82 then mg_tail h73 x0 x1 x2 else some ((6 : Int32), h73)))) := rfl
set_option maxRecDepth 100000 in
set_option maxHeartbeats 4000000 in
theorem m_pass (hR : isRa ra) {s : WS} {N : Nat} (hs : MW I ra s) (hok : WOK s N) (hg : GS s) (x : Int32) : ∃ I', f_X12_goThrough (enc I D K n Z) 162 ra x = some (nI (wPass s x).2, enc I' D K n Z) ∧ MW I' ra (wPass s x).1 ∧ FrM ra I I' ∧ I' 162 25 = I 162 25 := by
  have hM := hs.1
  have h24 := hs.2.1.2.2.2
  have hd8 := hok.1.2.1.2
  have hr8 := hok.1.1.2
  have hrm := hok.2.1
  have l0 : ald (enc I D K n Z) ra 0 (0 : Int32) = some (nI (s.1 0)) := by rw [← hM 0 (by decide)]; exact ald_n (s_Ra hR) 0 (by decide) (by decide)
  simp only [mg_eq, l0, bA_s, m_inN (enc I D K n Z) x (s.1 0) (by omega), b2_s]
  by_cases hx : 0 ≤ x.toInt ∧ x.toInt < s.1 0
  · rw [if_pos hx, if_neg (by decide)]
    obtain ⟨k, hk, rfl⟩ := (ix_in (m := s.1 0) (by omega)).mp hx
    have e0 : wPass s (nI k) = wPassK s k := by unfold wPass; rw [if_pos hx, nI_clamp (by omega)]
    rw [e0]
    obtain ⟨u1, u2, u3, u4, u5, u6⟩ := hok.1.2.2.2.2.2.2 k hk
    have hk8 : k < 8 := by omega
    have c1 : (nI (s.1 (15 + 5 * k)) = nI s.2.1) = (s.1 (15 + 5 * k) = s.2.1) := z_eq (by omega) (by omega)
    have c2 : (nI (s.1 (16 + 5 * k)) = nI s.2.1) = (s.1 (16 + 5 * k) = s.2.1) := z_eq (by omega) (by omega)
    simp only [m_of1 hR hM hk8, m_of2 hR hM hk8, b2_s, g162_24, bA_s, h24, c1, c2]
    have key : (s.2.1 = s.1 (15 + 5 * k) ∨ s.2.1 = s.1 (16 + 5 * k)) → ∃ I', mg_tail (enc I D K n Z) 162 ra (nI k) = some (nI (wPassK s k).2, enc I' D K n Z) ∧ MW I' ra (wPassK s k).1 ∧ FrM ra I I' ∧ I' 162 25 = I 162 25 := by
      intro hr
      have hop : ∀ j ∈ s.2.2.2.2.1, j < 8 := fun j hj => by have := hok.2.2.2.2.1.2 j hj; omega
      simp only [mg_tail, c162, bA_s, m_isOpen hok.len hop hk8 hs.2.1.1 hs.2.2, b2_s]
      by_cases hin : k ∈ s.2.2.2.2.1
      · have e1 : wPassK s k = (through s k, 0) := by unfold wPassK; rw [if_pos hr, if_pos hin]
        rw [if_pos hin, if_neg (by decide), e1]
        simp only [b2_s, if_true, m_of1 hR hM hk8, m_of2 hR hM hk8, g162_24, bA_s, h24, nI_add, pk_sub (show s.2.1 ≤ s.1 (15 + 5 * k) + s.1 (16 + 5 * k) by omega), p162_24]
        refine ⟨_, rfl, MW_room hR hs _, ⟨fun y h1 _ _ => va_up_ne _ _ h1, fun j hj => ?_⟩, ?_⟩
        · rw [va_up_self, pk_un (by omega)]
        · rw [va_up_self, pk_un (by decide)]
      · obtain ⟨I1, g1, g2, g3, g4⟩ := m_open (D := D) (K := K) (n := n) (Z := Z) hR hs hok hg hk hin
        rw [if_neg hin, if_pos rfl]
        simp only [g1, b2_s]
        have hkp := wOpen_keep (s := s) (k := k)
        have hle := wOpen_lt s k
        have hz : (0 : Int32) = nI 0 := by decide
        by_cases hf : (wOpen s k).2 = 0
        · have e1 : wPassK s k = (through (wOpen s k).1 k, 0) := by unfold wPassK; rw [if_pos hr, if_neg hin, if_pos hf]
          rw [hf, e1, if_pos (show nI 0 = (0 : Int32) by decide)]
          have hM1 := g2.1
          have h24' := g2.2.1.2.2.2
          rw [hkp.1] at h24'
          have e15 := hkp.2 (15 + 5 * k) (fun t => by omega)
          have e16 := hkp.2 (16 + 5 * k) (fun t => by omega)
          simp only [m_of1 hR hM1 hk8, m_of2 hR hM1 hk8, b2_s, g162_24, bA_s, h24', e15, e16, nI_add, pk_sub (show s.2.1 ≤ s.1 (15 + 5 * k) + s.1 (16 + 5 * k) by omega), p162_24]
          have ht : through (wOpen s k).1 k = ((wOpen s k).1.1, s.1 (15 + 5 * k) + s.1 (16 + 5 * k) - s.2.1, (wOpen s k).1.2.2) := by
            unfold through
            rw [hkp.1, e15, e16]
          rw [ht]
          refine ⟨_, rfl, MW_room hR g2 _, FrM.trans g3 ⟨fun y h1 _ _ => va_up_ne _ _ h1, fun j hj => ?_⟩, ?_⟩
          · rw [va_up_self, pk_un (by omega)]
          · rw [va_up_self, pk_un (by decide)]; exact g4
        · have e1 : wPassK s k = wOpen s k := by unfold wPassK; rw [if_pos hr, if_neg hin, if_neg hf]
          have hne : ¬ nI (wOpen s k).2 = 0 := by rw [hz, nI_eq hle (by decide)]; exact hf
          rw [e1, if_neg hne]
          have h24' := g2.2.1.2.2.2
          simp only [g162_24, bA_s, b2_s, h24', p162_24]
          have hmw := MW_room hR g2 (wOpen s k).1.2.1
          refine ⟨_, rfl, hmw, FrM.trans g3 ⟨fun y h1 _ _ => va_up_ne _ _ h1, fun j hj => ?_⟩, ?_⟩
          · rw [va_up_self, pk_un (by omega)]
          · rw [va_up_self, pk_un (by decide)]; exact g4
    by_cases d1 : s.1 (15 + 5 * k) = s.2.1
    · rw [if_pos d1]; exact key (Or.inl d1.symm)
    · rw [if_neg d1]
      by_cases d2 : s.1 (16 + 5 * k) = s.2.1
      · rw [if_pos d2]; exact key (Or.inr d2.symm)
      · rw [if_neg d2]
        have e1 : wPassK s k = (s, 6) := by unfold wPassK; rw [if_neg (by omega)]
        rw [e1]
        exact ⟨I, rfl, hs, FrM.rfl', rfl⟩
  · have e0 : wPass s x = (s, 6) := by unfold wPass; rw [if_neg hx]
    rw [if_neg hx, if_pos rfl, e0]
    exact ⟨I, rfl, hs, FrM.rfl', rfl⟩
set_option maxRecDepth 100000 in
set_option maxHeartbeats 4000000 in
theorem m_go_L (hR : isRa ra) {N : Nat} {β : Type} (kk : Int32 → Hp → Option β) {n0 : Nat} (hn0 : n0 ≤ 8) (f0 : Nat → Int32) : ∀ (m fuel j : Nat) (I : Nat → Nat → Int32) (s : WS), j + m = n0 → m < fuel → MW I ra s → WOK s N → GS s → I 162 25 = nI 0 → I 171 = f0 → ∃ I' y, f_X12_goOut_L27 kk 162 ra (nI n0) fuel (enc I D K n Z) (nI j) = kk y (enc I' D K n Z) ∧ MW I' ra (wRun (itm f0 j m) s).1 ∧ I' 162 25 = nI (wRun (itm f0 j m) s).2 ∧ FrM ra I I' := by
  have hra : ra ≠ 162 ∧ ra ≠ 172 ∧ ra ≠ 171 := by rcases hR with rfl | rfl <;> omega
  intro m
  induction m with
  | zero =>
    intro fuel j I s hj hf hs hok hg h25 hf0
    obtain ⟨f, rfl⟩ : ∃ f, fuel = f + 1 := ⟨fuel - 1, by omega⟩
    refine ⟨I, nI j, ?_, hs, h25, FrM.rfl'⟩
    rw [f_X12_goOut_L27, if_pos (nI_le (by omega) (by omega))]
  | succ m ih =>
    intro fuel j I s hj hf hs hok hg h25 hf0
    obtain ⟨f, rfl⟩ : ∃ f, fuel = f + 1 := ⟨fuel - 1, by omega⟩
    rw [f_X12_goOut_L27, if_neg (nI_ge (by omega) (by omega))]
    have hz : nI 0 = (0 : Int32) := by decide
    simp only [g162_25, bA_s, h25, hz, if_true, r162_19, ald_n s_171 j (show j < 8 by omega) (by decide), hf0, c162]
    obtain ⟨I1, g1, g2, g3, g4⟩ := m_pass (D := D) (K := K) (n := n) (Z := Z) hR hs hok hg (f0 j)
    simp only [g1, b2_s, p162_25, bA_s, z_i2]
    generalize hI2 : va_up I1 162 (upd (I1 162) 25 (nI (wPass s (f0 j)).2)) = I2
    have f2 : ∀ x, x ≠ 162 → I2 x = I1 x := fun x hx => by rw [← hI2, va_up_ne _ _ hx]
    have f2a : I2 162 = upd (I1 162) 25 (nI (wPass s (f0 j)).2) := by rw [← hI2, va_up_self]
    have hmw : MW I2 ra (wPass s (f0 j)).1 := by
      obtain ⟨a1, ⟨a21, a22, a23, a24⟩, a172⟩ := g2
      refine ⟨?_, ⟨?_, ?_, ?_, ?_⟩, ?_⟩
      · rw [f2 ra hra.1]; exact a1
      · rw [f2a, pk_un (by decide)]; exact a21
      · rw [f2a, pk_un (by decide)]; exact a22
      · rw [f2a, pk_un (by decide)]; exact a23
      · rw [f2a, pk_un (by decide)]; exact a24
      · intro i hi; rw [f2 172 (by decide)]; exact a172 i hi
    have h225 : I2 162 25 = nI (wPass s (f0 j)).2 := by rw [f2a, pk_us]
    have hfr : FrM ra I I2 := FrM.trans g3 ⟨fun x h1 _ _ => f2 x h1, fun j hj => by rw [f2a, pk_un (by omega)]⟩
    have hf2 : I2 171 = f0 := by rw [hfr.1 171 (by decide) (by decide) (Ne.symm hra.2.2)]; exact hf0
    show ∃ I' y, f_X12_goOut_L27 kk 162 ra (nI n0) f (enc I2 D K n Z) (nI (j + 1)) = kk y (enc I' D K n Z) ∧ MW I' ra (wRun (f0 j :: itm f0 (j + 1) m) s).1 ∧ I' 162 25 = nI (wRun (f0 j :: itm f0 (j + 1) m) s).2 ∧ FrM ra I I'
    by_cases hff : (wPass s (f0 j)).2 = 0
    · have e : wRun (f0 j :: itm f0 (j + 1) m) s = wRun (itm f0 (j + 1) m) (wPass s (f0 j)).1 := by rw [wRun, if_pos hff]
      rw [e]
      obtain ⟨I3, y, k1, k2, k3, k4⟩ := ih f (j + 1) I2 _ (by omega) (by omega) hmw (WOK_wPass hok _) (GS_wPass hg _) (by rw [h225, hff]) hf2
      exact ⟨I3, y, k1, k2, k3, FrM.trans hfr k4⟩
    · have e : wRun (f0 j :: itm f0 (j + 1) m) s = wPass s (f0 j) := by rw [wRun, if_neg hff]
      rw [e]
      obtain ⟨g, rfl⟩ : ∃ g, f = g + 1 := ⟨f - 1, by omega⟩
      rw [f_X12_goOut_L27]
      by_cases hjn : n0 ≤ j + 1
      · rw [if_pos (nI_le hjn (by omega))]
        exact ⟨I2, _, rfl, hmw, h225, hfr⟩
      · rw [if_neg (nI_ge (show j + 1 < n0 by omega) (by omega))]
        have hne : ¬ nI (wPass s (f0 j)).2 = 0 := by rw [← hz, nI_eq (wPass_f _) (by decide)]; exact hff
        simp only [g162_25, bA_s, h225, if_neg hne]
        exact ⟨I2, _, rfl, hmw, h225, hfr⟩
/-- what an errand leaves in the reference -/
def MG (I : Nat → Nat → Int32) (g : WS × Nat × Nat) : Prop := (I 162 21 = nI g.1.2.2.2.2.1.length ∧ I 162 22 = nI g.1.2.2.1 ∧ I 162 23 = nI g.1.2.2.2.1 ∧ I 162 24 = nI g.1.2.1 ∧ I 162 25 = nI g.2.1) ∧ (∀ i, i < g.1.2.2.2.2.1.length → I 172 i = nI (g.1.2.2.2.2.1.getD i 0))
set_option maxRecDepth 100000 in
set_option maxHeartbeats 4000000 in
theorem m_go (hR : isRa ra) {N : Nat} (hM : MH (I ra) r) (hwf : wf r N) (hN : N ≤ 2000) {n0 : Nat} (hn8 : n0 ≤ 8) : ∃ I', f_X12_goOut (enc I D K n Z) 162 ra (nI n0) = some (nI (wGo r (itm (I 171) 0 n0)).2.2, enc I' D K n Z) ∧ MH (I' ra) (wGo r (itm (I 171) 0 n0)).1.1 ∧ MG I' (wGo r (itm (I 171) 0 n0)) ∧ FrM ra I I' := by
  have hra : ra ≠ 162 ∧ ra ≠ 172 ∧ ra ≠ 171 := by rcases hR with rfl | rfl <;> omega
  simp only [f_X12_goOut, p162_21, p162_22, p162_23, p162_24, p162_25, bA_s, bx_uu, va_up_self]
  generalize hR0 : upd (upd (upd (upd (upd (I 162) 21 0) 22 0) 23 0) 24 0) 25 0 = R0
  have hRz : ∀ j, 21 ≤ j → j ≤ 25 → R0 j = nI 0 := by
    intro j h1 h2
    rw [← hR0]
    rcases (show j = 21 ∨ j = 22 ∨ j = 23 ∨ j = 24 ∨ j = 25 by omega) with rfl | rfl | rfl | rfl | rfl <;> rfl
  have hRo : ∀ j, (j < 21 ∨ 25 < j) → R0 j = I 162 j := by
    intro j hj
    rw [← hR0, pk_un (by omega), pk_un (by omega), pk_un (by omega), pk_un (by omega), pk_un (by omega)]
  generalize hI1 : va_up I 162 R0 = I1
  have f1 : ∀ x, x ≠ 162 → I1 x = I x := fun x hx => by rw [← hI1, va_up_ne _ _ hx]
  have f1a : I1 162 = R0 := by rw [← hI1, va_up_self]
  have hmw : MW I1 ra (start r) := by
    refine ⟨by rw [f1 ra hra.1]; exact hM, ⟨?_, ?_, ?_, ?_⟩, fun i hi => absurd hi (Nat.not_lt_zero i)⟩
    · rw [f1a]; exact hRz 21 (by decide) (by decide)
    · rw [f1a]; exact hRz 22 (by decide) (by decide)
    · rw [f1a]; exact hRz 23 (by decide) (by decide)
    · rw [f1a]; exact hRz 24 (by decide) (by decide)
  have hfr1 : FrM ra I I1 := ⟨fun x h1 _ _ => f1 x h1, fun j hj => by rw [f1a]; exact hRo j hj⟩
  obtain ⟨I2, y, c1, c2, c3, c4⟩ := m_go_L (D := D) (K := K) (n := n) (Z := Z) hR (fun y31 h30 => bA (gI h30 162 11 25) fun g33 => (if g33 = 0 then bA (gI h30 162 11 24) fun g36 => bA (ald h30 ra 0 ((6 : Int32) + g36)) fun v37 => bA (if v37 = 0 then some (11 : Int32) else some (0 : Int32)) fun j40 => bA (pV h30 162 11 25 (.inl j40)) fun h44 => bA (gI h44 162 11 24) fun g46 => bA (ast h44 ra 0 ((6 : Int32) + g46) (0 : Int32)) fun h47 => bA (ald h47 ra 0 (5 : Int32)) fun v49 => bA (ast h47 ra 0 (5 : Int32) (v49 + v37)) fun h51 => some (v37, h51) else some ((0 : Int32), h30))) hn8 (I 171) n0 2000 0 I1 (start r) (by omega) (by omega) hmw (WOK_start hwf hN) (show (0 : Nat) = gsum r [] from rfl) (by rw [f1a]; exact hRz 25 (by decide) (by decide)) (f1 171 (by decide))
  rw [show nI 0 = (0 : Int32) by decide] at c1
  rw [c1]
  have hfr2 := FrM.trans hfr1 c4
  generalize hp : wRun (itm (I 171) 0 n0) (start r) = p at c2 c3
  have hok : WOK p.1 N := by rw [← hp]; exact WOK_wRun _ _ (WOK_start hwf hN)
  have hpf : p.2 < 2 ^ 31 := by rw [← hp]; exact wRun_f _ _
  have hgo : wGo r (itm (I 171) 0 n0) = wTake p := by rw [← hp]; rfl
  rw [hgo]
  have hz : nI 0 = (0 : Int32) := by decide
  obtain ⟨a1, ⟨a21, a22, a23, a24⟩, a172⟩ := c2
  have hr8 := hok.1.1.2
  have hrm := hok.2.1
  simp only [g162_25, bA_s, c3]
  by_cases hf : p.2 = 0
  · rw [if_pos (show nI p.2 = 0 by rw [hf]; exact hz)]
    have hw20 := hok.1.2.2.2.2.2.1 p.1.2.1 (by omega)
    have e6 : (6 : Int32) + nI p.1.2.1 = nI (6 + p.1.2.1) := by rw [show (6 : Int32) = nI 6 by decide, nI_add]
    simp only [g162_24, bA_s, a24, e6, ald_n (s_Ra hR) (6 + p.1.2.1) (show 6 + p.1.2.1 < 54 by omega) (by decide), a1 (6 + p.1.2.1) (by omega)]
    have hj : (if nI (p.1.1 (6 + p.1.2.1)) = 0 then some (11 : Int32) else some (0 : Int32)) = some (nI (wTake p).2.1) := by
      unfold wTake
      rw [if_pos hf]
      by_cases e : p.1.1 (6 + p.1.2.1) = 0
      · rw [if_pos e, e]; rfl
      · have hne : ¬ nI (p.1.1 (6 + p.1.2.1)) = 0 := by rw [← hz, nI_eq (by omega) (by decide)]; exact e
        rw [if_neg e, if_neg hne]; rfl
    have hwt : nI (p.1.1 (6 + p.1.2.1)) = nI (wTake p).2.2 := by
      unfold wTake
      rw [if_pos hf]
      by_cases e : p.1.1 (6 + p.1.2.1) = 0
      · rw [if_pos e, e]
      · rw [if_neg e]
    simp only [hj, bA_s, p162_25, g162_24, va_up_self, pk_un (show 24 ≠ 25 by decide), a24, e6, ast_n (s_Ra hR) (6 + p.1.2.1) _ (show 6 + p.1.2.1 < 54 by omega) (by decide), va_up_ne _ _ hra.1]
    generalize hI3 : va_up I2 162 (upd (I2 162) 25 (nI (wTake p).2.1)) = I3
    have f3 : ∀ x, x ≠ 162 → I3 x = I2 x := fun x hx => by rw [← hI3, va_up_ne _ _ hx]
    have f3a : I3 162 = upd (I2 162) 25 (nI (wTake p).2.1) := by rw [← hI3, va_up_self]
    have ha5 : upd (I2 ra) (6 + p.1.2.1) 0 5 = nI (p.1.1 5) := by rw [pk_un (by omega)]; exact a1 5 (by decide)
    have l5 : ∀ J : Nat → Nat → Int32, ald (enc J D K n Z) ra 0 (5 : Int32) = some (J ra 5) := fun J => ald_n (s_Ra hR) 5 (by decide) (by decide)
    have t5 : ∀ (J : Nat → Nat → Int32) (v : Int32), ast (enc J D K n Z) ra 0 (5 : Int32) v = some (enc (va_up J ra (upd (J ra) 5 v)) D K n Z) := fun J v => ast_n (s_Ra hR) 5 v (by decide) (by decide)
    simp only [l5, t5, bA_s, bx_uu, va_up_self, ha5, nI_add]
    generalize hI4 : va_up I3 ra (upd (upd (I2 ra) (6 + p.1.2.1) 0) 5 (nI (p.1.1 5 + p.1.1 (6 + p.1.2.1)))) = I4
    have f4 : ∀ x, x ≠ ra → I4 x = I3 x := fun x hx => by rw [← hI4, va_up_ne _ _ hx]
    have f4a : I4 ra = upd (upd (I2 ra) (6 + p.1.2.1) 0) 5 (nI (p.1.1 5 + p.1.1 (6 + p.1.2.1))) := by rw [← hI4, va_up_self]
    have hM4 : MH (I4 ra) (wTake p).1.1 := by
      rw [f4a]
      have h1 := (MH.upd a1 (6 + p.1.2.1) 0).upd 5 (p.1.1 5 + p.1.1 (6 + p.1.2.1))
      unfold wTake
      rw [if_pos hf]
      by_cases e : p.1.1 (6 + p.1.2.1) = 0
      · rw [if_pos e]
        intro j hj
        rw [show (0 : Int32) = nI 0 from rfl]
        rw [h1 j hj]
        show nI _ = nI (p.1.1 j)
        by_cases j5 : j = 5
        · subst j5; rw [uN_s, e, Nat.add_zero]
        · rw [uN_n _ j5]
          by_cases j6 : j = 6 + p.1.2.1
          · subst j6; rw [uN_s, e]
          · rw [uN_n _ j6]
      · rw [if_neg e]; exact h1
    have f4b : I4 162 = upd (I2 162) 25 (nI (wTake p).2.1) := by rw [f4 162 (Ne.symm hra.1), f3a]
    have hop : (wTake p).1.2 = p.1.2 := wTake_op p
    refine ⟨I4, by rw [hwt], hM4, ⟨⟨?_, ?_, ?_, ?_, ?_⟩, ?_⟩, FrM.trans hfr2 ⟨?_, ?_⟩⟩
    · rw [f4b, pk_un (by decide), hop]; exact a21
    · rw [f4b, pk_un (by decide), hop]; exact a22
    · rw [f4b, pk_un (by decide), hop]; exact a23
    · rw [f4b, pk_un (by decide), hop]; exact a24
    · rw [f4b, pk_us]
    · rw [hop]; intro i hi; rw [f4 172 (Ne.symm hra.2.1), f3 172 (by decide)]; exact a172 i hi
    · intro x h1 h2 h3; rw [f4 x h3, f3 x h1]
    · intro j hj; rw [f4b, pk_un (by omega)]
  · have hne : ¬ nI p.2 = 0 := by rw [← hz, nI_eq hpf (by decide)]; exact hf
    have ht : wTake p = (p.1, p.2, 0) := by unfold wTake; rw [if_neg hf]
    rw [if_neg hne, ht]
    exact ⟨I2, rfl, a1, ⟨⟨a21, a22, a23, a24, c3⟩, a172⟩, hfr2⟩
end WalkN
