section ReadQ
variable {T : Nat → Nat} {t : Nat} {I : Nat → Nat → Int32} {D : Nat → Nat → Option Nat} {K : Nat → Nat} {n : Nat} {Z : Nat → Cl}
theorem t167_2 (x : Int32) : ast (enc I D K n Z) 167 0 (2 : Int32) x = some (enc (va_up I 167 (upd (I 167) 2 x)) D K n Z) := t167 2 x (by decide)
theorem t167_3 (x : Int32) : ast (enc I D K n Z) 167 0 (3 : Int32) x = some (enc (va_up I 167 (upd (I 167) 3 x)) D K n Z) := t167 3 x (by decide)
theorem t167_4 (x : Int32) : ast (enc I D K n Z) 167 0 (4 : Int32) x = some (enc (va_up I 167 (upd (I 167) 4 x)) D K n Z) := t167 4 x (by decide)
theorem pl2_e : pNm T t 1 9 (-1) (pl1 T t) = pl2 T t := rfl
theorem pl3_e : pSg T t 44 (pl2 T t) = pl3 T t := rfl
theorem pl4_e : pNm T t 1 60 (-1) (pl3 T t) = pl4 T t := rfl
theorem pl5_e : pSg T t 44 (pl4 T t) = pl5 T t := rfl
theorem pl6_e : pNm T t 0 63 (-1) (pl5 T t) = pl6 T t := rfl
theorem pl7_e : pSg T t 59 (pl6 T t) = pl7 T t := rfl
set_option maxHeartbeats 4000000 in
theorem m_law (ht : TO T t) (h : Ms T t I (0, 0)) (h0 : ∀ j, j < 54 → I 167 j = 0) : ∃ I', (∀ (β : Type) (kk : Hp → Option β), (bA (isC (enc I D K n Z) 162 11) fun u25 => b2 (f_X12_isLetter (enc I D K n Z) 162 (104 : Int32)) fun r21 h19 => bA (isC h19 162 11) fun u34 => bA (f_X12_must h19 162 r21) fun h28 => bA (gN h28 162 11 6) fun a38 => bA (isC h28 162 11) fun u45 => b2 (f_X12_number h28 162 (1 : Int32) (9 : Int32)) fun r41 h39 => bA (ast h39 a38 0 (2 : Int32) r41) fun h48 => bA (isC h48 162 11) fun u56 => bA (f_X12_mustSign h48 162 (44 : Int32)) fun h50 => bA (gN h50 162 11 6) fun a60 => bA (isC h50 162 11) fun u67 => b2 (f_X12_number h50 162 (1 : Int32) (60 : Int32)) fun r63 h61 => bA (ast h61 a60 0 (3 : Int32) r63) fun h70 => bA (isC h70 162 11) fun u78 => bA (f_X12_mustSign h70 162 (44 : Int32)) fun h72 => bA (gN h72 162 11 6) fun a82 => bA (isC h72 162 11) fun u89 => b2 (f_X12_number h72 162 (0 : Int32) (63 : Int32)) fun r85 h83 => bA (ast h83 a82 0 (4 : Int32) r85) fun h92 => bA (isC h92 162 11) fun u100 => bA (f_X12_mustSign h92 162 (59 : Int32)) fun h94 => kk h94) = kk (enc I' D K n Z)) ∧ Ms T t I' (pl7 T t) ∧ ((pl7 T t).2 = 0 → MH (I' 167) (lawR T t)) ∧ FTm I I' := by
  obtain ⟨b, hb⟩ : ∃ b, (if ((0, 0) : PS).2 = 0 ∧ ((0, 0) : PS).1 < t ∧ T ((0, 0) : PS).1 = 104 then (1 : Int32) else 0) = b := ⟨_, rfl⟩
  have hL := m_isH (D := D) (K := K) (n := n) (Z := Z) ht h
  rw [hb] at hL
  obtain ⟨I1, a1, a2, a3⟩ := m_must (D := D) (K := K) (n := n) (Z := Z) ht h b
  have em : pMu T t b (0, 0) = pl1 T t := by
    rw [← hb, pMu, pl1, pSg]
    by_cases c : ((0, 0) : PS).1 < t ∧ T ((0, 0) : PS).1 = 104
    · have c' : 0 < t ∧ T 0 = 104 := c
      have c1 : ((0, 0) : PS).2 = 0 ∧ ((0, 0) : PS).1 < t ∧ T ((0, 0) : PS).1 = 104 := ⟨rfl, c⟩
      rw [if_pos c1, if_neg one0, if_pos (show ((0, 0) : PS).2 = 0 from rfl), if_pos (show ((0, 0) : PS).2 = 0 from rfl), if_pos c]
      show (cuN T t 0, 0) = (0 + 1, 0)
      rw [cu_n c'.1 (by omega)]
    · have c1 : ¬ (((0, 0) : PS).2 = 0 ∧ ((0, 0) : PS).1 < t ∧ T ((0, 0) : PS).1 = 104) := fun w => c w.2
      rw [if_neg c1, if_pos (show (0 : Int32) = 0 from rfl), if_pos (show ((0, 0) : PS).2 = 0 from rfl), if_neg c]
      rfl
  rw [em] at a2
  obtain ⟨y2, I2, b1, b2', b3', b4'⟩ := m_num (D := D) (K := K) (n := n) (Z := Z) ht a2 (1 : Int32) (9 : Int32) 1 9 rfl rfl (by decide) (by decide)
  rw [pl2_e] at b2' b4'
  obtain ⟨J2, e2⟩ : ∃ J, va_up I2 167 (upd (I2 167) 2 y2) = J := ⟨_, rfl⟩
  have s2 : Ms T t J2 (pl2 T t) := by rw [← e2]; exact Ms.keep b2' (va_up_ne _ _ (by decide)) (va_up_ne _ _ (by decide))
  obtain ⟨I3, d1, d2, d3⟩ := m_sg (D := D) (K := K) (n := n) (Z := Z) ht s2 (44 : Int32) 44 rfl (Or.inl rfl)
  rw [pl3_e] at d2
  obtain ⟨y4, I4, f1, f2, f3, f4⟩ := m_num (D := D) (K := K) (n := n) (Z := Z) ht d2 (1 : Int32) (60 : Int32) 1 60 rfl rfl (by decide) (by decide)
  rw [pl4_e] at f2 f4
  obtain ⟨J4, e4⟩ : ∃ J, va_up I4 167 (upd (I4 167) 3 y4) = J := ⟨_, rfl⟩
  have s4 : Ms T t J4 (pl4 T t) := by rw [← e4]; exact Ms.keep f2 (va_up_ne _ _ (by decide)) (va_up_ne _ _ (by decide))
  obtain ⟨I5, j1, j2, j3⟩ := m_sg (D := D) (K := K) (n := n) (Z := Z) ht s4 (44 : Int32) 44 rfl (Or.inl rfl)
  rw [pl5_e] at j2
  obtain ⟨y6, I6, k1, k2, k3, k4⟩ := m_num (D := D) (K := K) (n := n) (Z := Z) ht j2 (0 : Int32) (63 : Int32) 0 63 rfl rfl (by decide) (by decide)
  rw [pl6_e] at k2 k4
  obtain ⟨J6, e6⟩ : ∃ J, va_up I6 167 (upd (I6 167) 4 y6) = J := ⟨_, rfl⟩
  have s6 : Ms T t J6 (pl6 T t) := by rw [← e6]; exact Ms.keep k2 (va_up_ne _ _ (by decide)) (va_up_ne _ _ (by decide))
  obtain ⟨I7, m1, m2, m3⟩ := m_sg (D := D) (K := K) (n := n) (Z := Z) ht s6 (59 : Int32) 59 rfl (Or.inr rfl)
  rw [pl7_e] at m2
  have q : I7 167 = upd (upd (upd (I 167) 2 y2) 3 y4) 4 y6 := by
    rw [m3.1 167 (by decide), ← e6, va_up_self, k3.1 167 (by decide), j3.1 167 (by decide), ← e4, va_up_self, f3.1 167 (by decide), d3.1 167 (by decide), ← e2, va_up_self, b3'.1 167 (by decide), a3.1 167 (by decide)]
  have g2 : FTm I2 J2 := by rw [← e2]; exact ⟨fun x _ hy => va_up_ne _ _ hy, fun j _ => by rw [va_up_ne _ _ (by decide)]⟩
  have g4 : FTm I4 J4 := by rw [← e4]; exact ⟨fun x _ hy => va_up_ne _ _ hy, fun j _ => by rw [va_up_ne _ _ (by decide)]⟩
  have g6 : FTm I6 J6 := by rw [← e6]; exact ⟨fun x _ hy => va_up_ne _ _ hy, fun j _ => by rw [va_up_ne _ _ (by decide)]⟩
  refine ⟨I7, fun β kk => ?_, m2, fun z => ?_, ((a3.tr b3').m.tr g2).tr (((d3.tr f3).m.tr g4).tr (((j3.tr k3).m.tr g6).tr m3.m))⟩
  · simp only [c162, bA_s, hL, b2_s, a1, r162_6, b1, t167_2, e2, d1, f1, t167_3, e4, j1, k1, t167_4, e6, m1]
  · obtain ⟨z2, z4, z6⟩ := pl_ok z
    intro j hj
    rw [q]
    by_cases c4 : j = 4
    · subst c4; rw [pk_us, lawR_4]; exact k4 z6
    · rw [pk_un c4]
      by_cases c3 : j = 3
      · subst c3; rw [pk_us, lawR_3]; exact f4 z4
      · rw [pk_un c3]
        by_cases c2' : j = 2
        · subst c2'; rw [pk_us, lawR_2]; exact b4' z2
        · rw [pk_un c2', h0 j hj, lawR_o T t c2' c3 c4]; rfl
set_option maxHeartbeats 4000000 in
theorem m_house (ht : TO T t) (h11 : I 162 11 = nI t) (h170 : ∀ j, j < t → I 170 j = nI (T j)) {V : Int32} (hV : ¬ (pD2 T t).2 = 0 → ∀ x : Int32, x = nI (pD2 T t).1 → (-1000100 : Int32) - x = V) (hV0 : (pD2 T t).2 = 0 → nI ((pD1 T t).2 0) = V) : ∃ I', f_X12_house (enc I D K n Z) 162 = some (V, enc I' D K n Z) ∧ I' 162 11 = nI 0 ∧ I' 162 18 = (if (pD2 T t).2 = 0 then I 162 18 else nI (pD2 T t).2) ∧ (∀ x, x ≠ 162 → x ≠ 166 → x ≠ 167 → I' x = I x) ∧ (∀ j, j ≠ 0 → j ≠ 9 → j ≠ 11 → j ≠ 18 → j ≠ 27 → (j < 12 ∨ 17 < j) → I' 162 j = I 162 j) ∧ ((pD2 T t).2 = 0 → MH (I' 166) (pD1 T t).2 ∧ I' 162 9 = nI 0 ∧ I' 162 27 = nI 0) ∧ (¬ (pD2 T t).2 = 0 → I' 166 = I 166 ∧ I' 162 9 = I 162 9 ∧ I' 162 27 = I 162 27) := by
  obtain ⟨J0, e0⟩ : ∃ J, va_up I 162 (upd (upd (upd (I 162) 0 (0 : Int32)) 12 (0 : Int32)) 16 (0 : Int32)) = J := ⟨_, rfl⟩
  have f0 : ∀ x, x ≠ 162 → J0 x = I x := fun x hx => by rw [← e0, va_up_ne _ _ hx]
  have g0 : ∀ j, j ≠ 0 → j ≠ 12 → j ≠ 16 → J0 162 j = I 162 j := fun j a b c => by rw [← e0, va_up_self, pk_un c, pk_un b, pk_un a]
  obtain ⟨J1, a1, a2, a3, a4⟩ := m_next (D := D) (K := K) (n := n) (Z := Z) ht (I := J0) (by rw [g0 11 (by decide) (by decide) (by decide)]; exact h11) (fun j hj => by rw [f0 170 (by decide)]; exact h170 j hj) (p := 0) (Nat.zero_le _) (by rw [← e0, va_up_self, pu_12_16, pk_us]; rfl)
  obtain ⟨J2, z1, z2, z3, z4⟩ := m_zero_L (D := D) (K := K) (n := n) (Z := Z) 54 2000 0 J1 (by decide) (by decide)
  have z1 : ∀ (β : Type) (kk : Int32 → Hp → Option β), f_X12_house_L11 kk 162 2000 (enc J1 D K n Z) (0 : Int32) = kk (nI 54) (enc J2 D K n Z) := z1
  have s2 : Ms T t J2 (0, 0) := by
    refine ⟨?_, ?_, ⟨Nat.zero_le _, Nat.zero_le _⟩, ?_, fun _ => ?_, fun q => absurd rfl q⟩
    · rw [z2 162 (by decide), a4 11 (by omega), g0 11 (by decide) (by decide) (by decide)]; exact h11
    · intro j hj; rw [z2 170 (by decide), a3 170 (by decide), f0 170 (by decide)]; exact h170 j hj
    · rw [z2 162 (by decide), a4 16 (by omega), ← e0, va_up_self, pk_us]; rfl
    · rw [z2 162 (by decide)]; exact a2
  obtain ⟨J3, b1, b2', b3', b4'⟩ := m_law (D := D) (K := K) (n := n) (Z := Z) ht s2 (fun j hj => z4 j (Nat.zero_le _) hj)
  obtain ⟨J4, c1, c2', c3, c4'⟩ := m_step (D := D) (K := K) (n := n) (Z := Z) (x := (pl7 T t, lawR T t)) ht b2' (fun z => ⟨b3' z, (lawR_pw z).1.2.2.2.2.1⟩) (j := 0) (by decide)
  have y1 : (pSt T t (pl7 T t, lawR T t)).1.2 = 0 → (pSt T t (pl7 T t, lawR T t)).2 1 ≤ 8 ∧ 1 ≤ (pSt T t (pl7 T t, lawR T t)).2 1 := by
    unfold pSt
    split
    · intro z
      obtain ⟨p1, p2, p3⟩ := pRm_ok z
      rw [p3, addR_1]
      exact ⟨p1, Nat.succ_le_succ (Nat.zero_le _)⟩
    · intro z; exact absurd z (pBd_ok (by decide))
  obtain ⟨x1, ex1⟩ : ∃ x, pSt T t (pl7 T t, lawR T t) = x := ⟨_, rfl⟩
  rw [ex1] at c2' c3 y1
  obtain ⟨J5, d1, d2, d3, d4⟩ := m_step (D := D) (K := K) (n := n) (Z := Z) (x := x1) ht c2' (fun z => ⟨c3 z, (y1 z).1⟩) (j := 1) (by decide)
  have y2 : (pSt T t x1).1.2 = 0 → (pSt T t x1).2 1 ≤ 8 ∧ 2 ≤ (pSt T t x1).2 1 := by
    unfold pSt
    split
    · next w =>
      intro z
      obtain ⟨p1, p2, p3⟩ := pRm_ok z
      rw [p3, addR_1]
      exact ⟨p1, Nat.succ_le_succ (y1 w.1).2⟩
    · intro z; exact absurd z (pBd_ok (by decide))
  obtain ⟨x2, ex2⟩ : ∃ x, pSt T t x1 = x := ⟨_, rfl⟩
  rw [ex2] at d2 d3 y2
  have l99 : ∀ (β : Type) (kk : Int32 → Hp → Option β), f_X12_house_L99 kk 162 2000 (enc J3 D K n Z) (0 : Int32) = kk (nI 2) (enc J5 D K n Z) := fun β kk => by
    refine Eq.trans (c1 β kk 1999) (Eq.trans (d1 β kk 1998) ?_)
    rw [f_X12_house_L99, if_pos (show (2 : Int32) ≤ nI (1 + 1) by decide)]
  obtain ⟨J6, k1, k2, k3, k4⟩ := m_rooms_L (D := D) (K := K) (n := n) (Z := Z) ht 7 2000 J5 x2 (by decide) d2 (fun z => ⟨d3 z, (y2 z).1, Nat.add_le_add_right (y2 z).2 7⟩)
  have eR : pRl T t 7 x2 = pR2 T t := by
    rw [← ex2, ← ex1, pR_eq (fun z => (lawR_pw z).2.2)]
    rfl
  rw [eR] at k2 k3
  have y3 : (pR2 T t).1.2 = 0 → (1 ≤ (pR2 T t).2 1 ∧ (pR2 T t).2 1 ≤ 8 ∧ (pR2 T t).2 0 = 0) := fun z => by
    obtain ⟨w1, w2, w3⟩ := pR2_ok z
    have w4 := pR1_pw w1
    rw [pR2_2]
    exact ⟨Nat.le_trans (by decide) w2, w4.1.2.2.2.2.1, w4.2⟩
  obtain ⟨x3, ex3⟩ : ∃ x, pR2 T t = x := ⟨_, rfl⟩
  have eD := pD_eq (T := T) (t := t) (x := pR2 T t) (fun z => (y3 z).2.2)
  rw [← pD1_e] at eD
  rw [ex3] at k2 k3 y3 eD
  have so : ∃ J7, (bA (if (if x3.1.2 = 0 ∧ x3.1.1 < t ∧ ¬ kb (T x3.1.1) = 0 then (1 : Int32) else 0) = 0 then bA (isC (enc J6 D K n Z) 162 11) fun u176 => bA (f_X12_bad (enc J6 D K n Z) 162 (1 : Int32)) fun h170 => some h170 else some (enc J6 D K n Z)) fun h => some h) = some (enc J7 D K n Z) ∧ Ms T t J7 (pSo T t x3).1 ∧ ((pSo T t x3).1.2 = 0 → x3.1.2 = 0) ∧ FTk J6 J7 := by
    unfold pSo
    by_cases w : x3.1.2 = 0 ∧ x3.1.1 < t ∧ ¬ kb (T x3.1.1) = 0
    · rw [if_pos w, if_pos w, if_neg one0]
      exact ⟨J6, rfl, k2, fun q => q, FTk.rf J6⟩
    · obtain ⟨J, j1, j2, j3⟩ := m_bad (D := D) (K := K) (n := n) (Z := Z) k2 (1 : Int32) 1 rfl (by decide) (by decide)
      rw [if_neg w, if_neg w, if_pos rfl, c162, bA_s, j1, bA_s, bA_s]
      exact ⟨J, rfl, j2, fun q => absurd q (pBd_ok (by decide)), j3⟩
  obtain ⟨J7, o1, o2, o3, o4⟩ := so
  have i6 := m_isS (D := D) (K := K) (n := n) (Z := Z) ht k2
  obtain ⟨J8, q1, q2, q3, q4⟩ := m_doors_L (D := D) (K := K) (n := n) (Z := Z) ht 9 2000 J7 (pSo T t x3) (by decide) o2 (fun z => by
    have w := o3 z
    have v := y3 w
    show MH (J7 167) x3.2 ∧ 1 ≤ x3.2 1 ∧ x3.2 1 ≤ 8 ∧ x3.2 0 ≤ 8 ∧ 9 ≤ x3.2 0 + 9
    refine ⟨by rw [o4.1 167 (by decide)]; exact k3 w, v.1, v.2.1, by rw [v.2.2]; decide, by rw [v.2.2]; decide⟩)
  obtain ⟨x4, ex4⟩ : ∃ x, pDl T t 9 (pSo T t x3) = x := ⟨_, rfl⟩
  rw [ex4] at q2 q3 eD
  have ePD : (if x4.1.1 < t then pBd 1 x4.1 else x4.1) = pD2 T t := by rw [eD.1, pD2]
  obtain ⟨J9, r1, r2, r3, r4, r5, r6⟩ := m_failed (D := D) (K := K) (n := n) (Z := Z) ht q2 ePD
  have F8 : FTm J2 J8 := (((b4'.tr c4').tr d4).tr (k4.tr o4.m)).tr q4
  have F9 : ∀ x, x ≠ 162 → x ≠ 167 → J9 x = I x := fun x hx hy => by rw [r5 x hx, F8.1 x hx hy, z2 x hy, a3 x hx, f0 x hx]
  have G9 : ∀ j, j ≠ 0 → j ≠ 11 → j ≠ 18 → (j < 12 ∨ 17 < j) → J9 162 j = I 162 j := fun j j0 j11 j18 hj => by
    rw [r6 j j11 j18 hj, F8.2 j hj, z2 162 (by decide), a4 j (by omega), g0 j j0 (by omega) (by omega)]
  have H18 : J8 162 18 = I 162 18 := by rw [F8.2 18 (by omega), z2 162 (by decide), a4 18 (by omega), g0 18 (by decide) (by decide) (by decide)]
  have head : ∀ W, (b2 (f_X12_failed (enc J8 D K n Z) 162) fun r201 h199 => (if r201 = 0 then bA (pV h199 162 11 9 (.inl (0 : Int32))) fun h210 => bA (pV h210 162 11 27 (.inl (0 : Int32))) fun h212 => f_X12_house_L196 (fun y223 h222 => bA (gN h222 162 11 5) fun a225 => bA (ald h222 a225 0 (0 : Int32)) fun v226 => some (v226, h222)) 162 2000 h212 (0 : Int32) else bA (gI h199 162 11 17) fun g229 => some (((-1000100 : Int32) - g229), h199))) = W → f_X12_house (enc I D K n Z) 162 = W := fun W hW => by
    rw [← hW]
    simp only [f_X12_house, p162_0, bA_s, c162, f_X12_begin, p162_12, p162_16, va_up_self, bx_uu, e0, a1, z1]
    simp only [c162, bA_s] at b1
    rw [b1]
    simp only [l99, k1, c162, bA_s, i6, b2_s]
    simp only [c162, bA_s] at o1
    by_cases w : x3.1.2 = 0 ∧ x3.1.1 < t ∧ ¬ kb (T x3.1.1) = 0
    · simp only [if_pos w, if_neg one0, bA_s] at o1 ⊢
      rw [Option.some.inj o1]
      simp only [q1, c162, bA_s]
    · simp only [if_neg w, if_true, bA_id] at o1 ⊢
      rw [o1]
      simp only [q1, c162, bA_s]
  by_cases z : (pD2 T t).2 = 0
  · obtain ⟨L, eL⟩ : ∃ L, va_up J9 162 (upd (upd (J9 162) 9 (0 : Int32)) 27 (0 : Int32)) = L := ⟨_, rfl⟩
    obtain ⟨L2, m1, m2, m3, m4⟩ := m_copy_L (D := D) (K := K) (n := n) (Z := Z) 54 2000 0 L (by decide) (by decide)
    have m1 : ∀ (β : Type) (kk : Int32 → Hp → Option β), f_X12_house_L196 kk 162 2000 (enc L D K n Z) (0 : Int32) = kk (nI 54) (enc L2 D K n Z) := m1
    have fL : ∀ x, x ≠ 162 → L x = J9 x := fun x hx => by rw [← eL, va_up_ne _ _ hx]
    have zz := (pD2_wf z).2
    have e4 : x4.2 = (pD1 T t).2 ∧ x4.1.2 = 0 := by
      have nn : ¬ ((pD1 T t).2 0 < 1 ∨ (pD1 T t).1.1 < t) := fun w => by
        rw [pD2, if_pos w] at z
        exact absurd z (pBd_ok (by decide))
      rcases eD.2 nn with e | e
      · exact ⟨by rw [e], by rw [e]; exact zz⟩
      · exact absurd zz e
    have hM : MH (L2 166) (pD1 T t).2 := by
      intro j hj
      rw [m4 j (Nat.zero_le _) hj, fL 167 (by decide), r5 167 (by decide), ← e4.1]
      exact q3 e4.2 j hj
    have l0 : ald (enc L2 D K n Z) 166 0 (0 : Int32) = some (nI ((pD1 T t).2 0)) := by
      have w := ald_n (I := L2) (D := D) (K := K) (n := n) (Z := Z) s_166 0 (by decide) (by decide)
      rw [hM 0 (by decide)] at w
      exact w
    refine ⟨L2, head _ ?_, ?_, ?_, ?_, ?_, fun _ => ⟨hM, ?_, ?_⟩, fun q => absurd z q⟩
    · rw [r1, if_pos z, b2_s, if_pos rfl]
      simp only [p162_9, p162_27, bA_s, va_up_self, bx_uu, eL, m1, r162_5, l0, hV0 z]
    · rw [m2 162 (by decide), ← eL, va_up_self, pk_un (by decide), pk_un (by decide)]; exact r2
    · rw [m2 162 (by decide), ← eL, va_up_self, pk_un (by decide), pk_un (by decide), r3, H18]
    · intro x h1 h2 h3
      rw [m2 x h2, fL x h1, F9 x h1 h3]
    · intro j h0 h9 h11' h18 h27 hj
      rw [m2 162 (by decide), ← eL, va_up_self, pk_un h27, pk_un h9, G9 j h0 h11' h18 hj]
    · rw [m2 162 (by decide), ← eL, va_up_self, pk_un (by decide), pk_us]; rfl
    · rw [m2 162 (by decide), ← eL, va_up_self, pk_us]; rfl
  · refine ⟨J9, head _ ?_, r2, ?_, fun x h1 h2 h3 => F9 x h1 h3, fun j h0 h9 h11' h18 h27 hj => G9 j h0 h11' h18 hj, fun q => absurd q z, fun _ => ⟨F9 166 (by decide) (by decide), G9 9 (by decide) (by decide) (by decide) (by omega), G9 27 (by decide) (by decide) (by decide) (by omega)⟩⟩
    · rw [r1, if_neg z, b2_s, if_neg one0, g162_17, bA_s, hV z _ (r4 z)]
    · rw [r3, if_neg z, if_neg z]
end ReadQ
