/-- what the reference's reading may change: its own places 12 to 17, the fresh row -/
def FTm (I I' : Nat → Nat → Int32) : Prop := (∀ x, x ≠ 162 → x ≠ 167 → I' x = I x) ∧ (∀ j, (j < 12 ∨ 17 < j) → I' 162 j = I 162 j)
theorem FTm.rf (I : Nat → Nat → Int32) : FTm I I := ⟨fun _ _ _ => rfl, fun _ _ => rfl⟩
theorem FTm.tr {I J L : Nat → Nat → Int32} (h : FTm I J) (g : FTm J L) : FTm I L := ⟨fun x hx hy => (g.1 x hx hy).trans (h.1 x hx hy), fun j hj => (g.2 j hj).trans (h.2 j hj)⟩
theorem FTk.m {I J : Nat → Nat → Int32} (h : FTk I J) : FTm I J := ⟨fun x hx _ => h.1 x hx, h.2⟩
section ReadO
variable {T : Nat → Nat} {t : Nat} {I : Nat → Nat → Int32} {D : Nat → Nat → Option Nat} {K : Nat → Nat} {n : Nat} {Z : Nat → Cl} {s : PS} {r : Ro}
theorem l167_0 : ald (enc I D K n Z) 167 0 (0 : Int32) = some (I 167 0) := l167 0 (by decide)
theorem l167_1 : ald (enc I D K n Z) 167 0 (1 : Int32) = some (I 167 1) := l167 1 (by decide)
theorem t167_0 (x : Int32) : ast (enc I D K n Z) 167 0 (0 : Int32) x = some (enc (va_up I 167 (upd (I 167) 0 x)) D K n Z) := t167 0 x (by decide)
theorem t167_1 (x : Int32) : ast (enc I D K n Z) 167 0 (1 : Int32) x = some (enc (va_up I 167 (upd (I 167) 1 x)) D K n Z) := t167 1 x (by decide)
theorem m_room1 (ht : TO T t) (h : Ms T t I s) (z : s.2 = 0) (hp : s.1 < t) (hT : T s.1 = 114) (hM : MH (I 167) r) (h18 : r 1 ≤ 8) : ∃ I', f_X12_readRoom (enc I D K n Z) 162 = some (enc I' D K n Z) ∧ Ms T t I' (pRm T t (s, r)).1 ∧ ((pRm T t (s, r)).1.2 = 0 → MH (I' 167) (pRm T t (s, r)).2) ∧ FTm I I' := by
  have e8 : (nI (r 1) = (8 : Int32)) = (r 1 = 8) := z_eq (m := 8) (by omega) (by decide)
  have hr1 : I 167 1 = nI (r 1) := hM 1 (by decide)
  have i0 : ∃ I0, (if nI (r 1) = (8 : Int32) then bA (isC (enc I D K n Z) 162 11) fun u15 => bA (f_X12_bad (enc I D K n Z) 162 (3 : Int32)) fun h9 => some h9 else some (enc I D K n Z)) = some (enc I0 D K n Z) ∧ Ms T t I0 (rq0 s r) ∧ FTk I I0 := by
    by_cases c : r 1 = 8
    · obtain ⟨J, j1, j2, j3⟩ := m_bad (D := D) (K := K) (n := n) (Z := Z) h (3 : Int32) 3 rfl (by decide) (by decide)
      refine ⟨J, ?_, ?_, j3⟩
      · rw [if_pos (by rw [e8]; exact c), c162, bA_s, j1, bA_s]
      · rw [rq0, if_pos (by omega)]; exact j2
    · refine ⟨I, by rw [if_neg (by rw [e8]; exact c)], ?_, FTk.rf I⟩
      rw [rq0, if_neg (by omega)]; exact h
  obtain ⟨I0, i1, i2, i3⟩ := i0
  obtain ⟨I1, a1, a2, a3⟩ := m_must (D := D) (K := K) (n := n) (Z := Z) ht i2 (1 : Int32)
  have em : pMu T t 1 (rq0 s r) = rq1 T t s r := by
    rw [pMu, if_neg one0, rq1, rq0]
    by_cases c : 8 ≤ r 1
    · have zb := pBd_ok (s := s) (show (3 : Nat) ≠ 0 by decide)
      rw [if_pos c, if_neg zb, pSg_dead zb]
    · rw [if_neg c, if_pos z, pSg, if_pos z, if_pos ⟨hp, hT⟩, cu_n hp (by omega)]
  rw [em] at a2
  obtain ⟨y, I2, b1, b2, b3, b4⟩ := m_num (D := D) (K := K) (n := n) (Z := Z) ht a2 (0 : Int32) (20 : Int32) 0 20 rfl rfl (by decide) (by decide)
  obtain ⟨I3, d1, d2, d3⟩ := m_sg (D := D) (K := K) (n := n) (Z := Z) ht b2 (59 : Int32) 59 rfl (Or.inr rfl)
  have d2 : Ms T t I3 (rq3 T t s r) := d2
  have f3 : FTk I I3 := ((i3.tr a3).tr b3).tr d3
  have hM3 : MH (I3 167) r := by rw [f3.1 167 (by decide)]; exact hM
  have hr3 : I3 167 1 = nI (r 1) := hM3 1 (by decide)
  simp only [f_X12_readRoom, r162_6, bA_s, l167_1, hr1]
  rw [i1]
  simp only [bA_s, c162, a1, b1, b2_s, d1, g162_16, d2.z]
  by_cases y0 : (rq3 T t s r).2 = 0
  · have hy : y = nI (nvN T t (rq1 T t s r).1) := b4 (rq_ok y0).2.1
    have h8 := (rq_ok y0).1
    have e6 : (6 : Int32) + nI (r 1) = nI (6 + r 1) := nI_add 6 (r 1)
    simp only [if_pos y0, r162_6, bA_s, l167_1, hr3, e6, t167 (6 + r 1) _ (show 6 + r 1 < 54 by omega), va_up_self, pk_un (show 1 ≠ 6 + r 1 by omega), z_i2, t167_1, bx_uu]
    refine ⟨_, rfl, d2.keep (va_up_ne _ _ (by decide)) (va_up_ne _ _ (by decide)), fun _ => ?_, fun x hx hy => by rw [va_up_ne _ _ hy, f3.1 x hx], fun j hj => by rw [va_up_ne _ _ (by decide), f3.2 j hj]⟩
    rw [(pRm_ok (x := (s, r)) y0).2.2]
    intro j hj
    rw [va_up_self]
    show _ = nI (addR r (nvN T t (rq1 T t s r).1) j)
    by_cases c1 : j = 1
    · subst c1; rw [pk_us, addR_1]
    · rw [pk_un c1]
      by_cases c6 : j = 6 + r 1
      · subst c6; rw [pk_us, addR_w, hy]
      · rw [pk_un c6, addR_o c1 c6]; exact hM3 j hj
  · simp only [if_neg y0, bA_s]
    exact ⟨I3, rfl, d2, fun q => absurd q y0, f3.m⟩
theorem m_rooms_L (ht : TO T t) : ∀ (c fuel : Nat) (I : Nat → Nat → Int32) (x : PR), c < fuel → Ms T t I x.1 → (x.1.2 = 0 → MH (I 167) x.2 ∧ x.2 1 ≤ 8 ∧ 9 ≤ x.2 1 + c) → ∃ I', (∀ (β : Type) (kk : Hp → Option β) (y : Int32), f_X12_house_L129 kk 162 y fuel (enc I D K n Z) = kk (enc I' D K n Z)) ∧ Ms T t I' (pRl T t c x).1 ∧ ((pRl T t c x).1.2 = 0 → MH (I' 167) (pRl T t c x).2) ∧ FTm I I' := by
  intro c
  induction c with
  | zero =>
    intro fuel I x hf h hx
    obtain ⟨f, rfl⟩ : ∃ f, fuel = f + 1 := ⟨fuel - 1, by omega⟩
    have z : ¬ x.1.2 = 0 := fun z => by have := hx z; omega
    refine ⟨I, fun β kk y => ?_, h, fun q => absurd q z, FTm.rf I⟩
    rw [f_X12_house_L129, c162, bA_s, m_isR ht h, b2_s, if_neg (show ¬ (x.1.2 = 0 ∧ x.1.1 < t ∧ T x.1.1 = 114) from fun w => z w.1), if_pos rfl]
  | succ c ih =>
    intro fuel I x hf h hx
    obtain ⟨f, rfl⟩ : ∃ f, fuel = f + 1 := ⟨fuel - 1, by omega⟩
    rw [pRl]
    by_cases y : x.1.2 = 0 ∧ x.1.1 < t ∧ T x.1.1 = 114
    · obtain ⟨x1, x2, x3⟩ := hx y.1
      obtain ⟨I1, k1, k2, k3, k4⟩ := m_room1 (D := D) (K := K) (n := n) (Z := Z) ht h y.1 y.2.1 y.2.2 x1 x2
      have k2 : Ms T t I1 (pRm T t x).1 := k2
      have k3 : (pRm T t x).1.2 = 0 → MH (I1 167) (pRm T t x).2 := k3
      obtain ⟨I2, m1, m2, m3, m4⟩ := ih f I1 (pRm T t x) (by omega) k2 (fun q => by
        obtain ⟨p1, p2, p3⟩ := pRm_ok q
        refine ⟨k3 q, ?_, ?_⟩
        · rw [p3, addR_1]; omega
        · rw [p3, addR_1]; omega)
      rw [if_pos y]
      refine ⟨I2, fun β kk w => ?_, m2, m3, k4.tr m4⟩
      rw [f_X12_house_L129, c162, bA_s, m_isR ht h, b2_s, if_pos y, if_neg one0, c162, bA_s, k1, bA_s]
      exact m1 β kk w
    · rw [if_neg y]
      refine ⟨I, fun β kk w => ?_, h, fun q => (hx q).1, FTm.rf I⟩
      rw [f_X12_house_L129, c162, bA_s, m_isR ht h, b2_s, if_neg y, if_pos rfl]
theorem lt54 (h : r 0 < 8) : (14 + 5 * r 0 < 54 ∧ 15 + 5 * r 0 < 54 ∧ 16 + 5 * r 0 < 54 ∧ 17 + 5 * r 0 < 54 ∧ 18 + 5 * r 0 < 54) := by omega
theorem n0_a (r : Ro) : (0 ≠ 14 + 5 * r 0) ∧ (0 ≠ 15 + 5 * r 0) ∧ (0 ≠ 16 + 5 * r 0) ∧ (0 ≠ 17 + 5 * r 0) ∧ (0 ≠ 18 + 5 * r 0) := by omega
theorem ep_15 (k : Nat) : 14 + 5 * k + 1 = 15 + 5 * k := by omega
theorem ep_0 (k : Nat) : (14 : Int32) + (5 : Int32) * nI k = nI (14 + 5 * k) := by
  rw [show (5 : Int32) * nI k = nI (5 * k) from pk_mul 5 k]; exact nI_add 14 _
theorem ep_1 (k : Nat) : nI (14 + 5 * k) + (1 : Int32) = nI (15 + 5 * k) := by
  rw [show nI (14 + 5 * k) + (1 : Int32) = nI (14 + 5 * k + 1) from nI_add _ 1, show 14 + 5 * k + 1 = 15 + 5 * k by omega]
theorem ep_2 (k : Nat) : nI (14 + 5 * k) + (2 : Int32) = nI (16 + 5 * k) := by
  rw [show nI (14 + 5 * k) + (2 : Int32) = nI (14 + 5 * k + 2) from nI_add _ 2, show 14 + 5 * k + 2 = 16 + 5 * k by omega]
theorem ep_3 (k : Nat) : nI (14 + 5 * k) + (3 : Int32) = nI (17 + 5 * k) := by
  rw [show nI (14 + 5 * k) + (3 : Int32) = nI (14 + 5 * k + 3) from nI_add _ 3, show 14 + 5 * k + 3 = 17 + 5 * k by omega]
theorem ep_4 (k : Nat) : nI (14 + 5 * k) + (4 : Int32) = nI (18 + 5 * k) := by
  rw [show nI (14 + 5 * k) + (4 : Int32) = nI (14 + 5 * k + 4) from nI_add _ 4, show 14 + 5 * k + 4 = 18 + 5 * k by omega]
theorem MH_addD {f : Nat → Int32} (hM : MH f r) {k a b v : Nat} {y2 y4 y6 : Int32} (hy2 : y2 = nI a) (hy4 : y4 = nI b) (hy6 : y6 = nI v) : MH (upd (upd (upd (upd (upd (upd f (14 + 5 * r 0) (nI k)) (15 + 5 * r 0) y2) (16 + 5 * r 0) y4) (17 + 5 * r 0) y6) (18 + 5 * r 0) (0 : Int32)) 0 (nI (r 0 + 1))) (addD r k a b v) := by
  intro j hj
  have ek := addD_k r k a b v
  by_cases c0 : j = 0
  · subst c0; rw [pk_us, addD_0]
  · rw [pk_un c0]
    by_cases c5 : j = 18 + 5 * r 0
    · subst c5; rw [pk_us, ek.2.2.2.2]; rfl
    · rw [pk_un c5]
      by_cases c4 : j = 17 + 5 * r 0
      · subst c4; rw [pk_us, ek.2.2.2.1]; exact hy6
      · rw [pk_un c4]
        by_cases c3 : j = 16 + 5 * r 0
        · subst c3; rw [pk_us, ek.2.2.1]; exact hy4
        · rw [pk_un c3]
          by_cases c2' : j = 15 + 5 * r 0
          · subst c2'; rw [pk_us, ek.2.1]; exact hy2
          · rw [pk_un c2']
            by_cases c1 : j = 14 + 5 * r 0
            · subst c1; rw [pk_us, ek.1]
            · rw [pk_un c1, addD_o c0 (by omega)]; exact hM j hj
theorem dr2_e : pNm T t 0 (r 1 - 1) (-1) (dr1 T t s r) = dr2 T t s r := rfl
theorem dr3_e : pSg T t 44 (dr2 T t s r) = dr3 T t s r := rfl
theorem dr5_e : pSg T t 44 (dr4 T t s r) = dr5 T t s r := rfl
theorem dr6_e : pNm T t 0 9 (-1) (dr5 T t s r) = dr6 T t s r := rfl
theorem dr7_e : pSg T t 59 (dr6 T t s r) = dr7 T t s r := rfl
theorem m_door1 (ht : TO T t) (h : Ms T t I s) (z : s.2 = 0) (hp : s.1 < t) (hk : ¬ kb (T s.1) = 0) (hM : MH (I 167) r) (h1 : 1 ≤ r 1) (h18 : r 1 ≤ 8) (h08 : r 0 ≤ 8) : ∃ I', f_X12_readDoor (enc I D K n Z) 162 = some (enc I' D K n Z) ∧ Ms T t I' (pDr T t (s, r)).1 ∧ ((pDr T t (s, r)).1.2 = 0 → MH (I' 167) (pDr T t (s, r)).2) ∧ FTm I I' := by
  have e1 : (pDr T t (s, r)).1 = dr7 T t s r := by simp only [pDr]
  rw [e1]
  have e8 : (nI (r 0) = (8 : Int32)) = (r 0 = 8) := z_eq (m := 8) (by omega) (by decide)
  have hr0 : I 167 0 = nI (r 0) := hM 0 (by decide)
  have al := kb_al hk
  have i15 : I 162 15 = nI (T s.1) := (h.2.2.2.2.1 z).2.2.2.2 (Or.inl (tk2.mpr ⟨hp, al⟩))
  have i0 : ∃ I0, (if nI (r 0) = (8 : Int32) then bA (isC (enc I D K n Z) 162 11) fun u25 => bA (f_X12_bad (enc I D K n Z) 162 (3 : Int32)) fun h19 => some h19 else some (enc I D K n Z)) = some (enc I0 D K n Z) ∧ Ms T t I0 (dr0 s r) ∧ FTk I I0 := by
    by_cases c : r 0 = 8
    · obtain ⟨J, j1, j2, j3⟩ := m_bad (D := D) (K := K) (n := n) (Z := Z) h (3 : Int32) 3 rfl (by decide) (by decide)
      refine ⟨J, ?_, ?_, j3⟩
      · rw [if_pos (by rw [e8]; exact c), c162, bA_s, j1, bA_s]
      · rw [dr0, if_pos (by omega)]; exact j2
    · refine ⟨I, by rw [if_neg (by rw [e8]; exact c)], ?_, FTk.rf I⟩
      rw [dr0, if_neg (by omega)]; exact h
  obtain ⟨I0, i1, i2, i3⟩ := i0
  obtain ⟨I1, a1, a2, a3⟩ := m_must (D := D) (K := K) (n := n) (Z := Z) ht i2 (1 : Int32)
  have em : pMu T t 1 (dr0 s r) = dr1 T t s r := by
    rw [pMu, if_neg one0, dr1, dr0]
    by_cases c : 8 ≤ r 0
    · have zb := pBd_ok (s := s) (show (3 : Nat) ≠ 0 by decide)
      rw [if_pos c, if_neg zb, pSg_dead zb]
    · rw [if_neg c, if_pos z, pSg, if_pos z, if_pos ⟨hp, rfl⟩, cu_n hp (by omega)]
  rw [em] at a2
  have e31 : I1 167 1 = nI (r 1) := by rw [(i3.tr a3).1 167 (by decide)]; exact hM 1 (by decide)
  have er : nI (r 1) - (1 : Int32) = nI (r 1 - 1) := pk_sub (b := 1) h1
  obtain ⟨y2, I2, b1, b2, b3, b4⟩ := m_num (D := D) (K := K) (n := n) (Z := Z) ht a2 (0 : Int32) (nI (r 1 - 1)) 0 (r 1 - 1) rfl rfl (by decide) (by omega)
  rw [dr2_e] at b2 b4
  obtain ⟨I3, d1, d2, d3⟩ := m_sg (D := D) (K := K) (n := n) (Z := Z) ht b2 (44 : Int32) 44 rfl (Or.inl rfl)
  rw [dr3_e] at d2
  have e33 : I3 167 1 = nI (r 1) := by rw [(b3.tr d3).1 167 (by decide)]; exact e31
  obtain ⟨y4, I4, f1, f2, f3, f4⟩ := m_other (D := D) (K := K) (n := n) (Z := Z) ht d2 y2 h1 h18 e33
  have eb : pNm T t 0 (r 1 - 1) y2 (dr3 T t s r) = dr4 T t s r := by
    by_cases z : (dr3 T t s r).2 = 0
    · have z2 : (dr2 T t s r).2 = 0 := (pSg_ok (t := t) (c := 44) (s := dr2 T t s r) (T := T) (by rw [dr3_e]; exact z)).1
      rw [b4 z2, dr4]
    · rw [pNm_dead z, dr4, pNm_dead z]
  rw [eb] at f2 f4
  obtain ⟨I5, j1, j2, j3⟩ := m_sg (D := D) (K := K) (n := n) (Z := Z) ht f2 (44 : Int32) 44 rfl (Or.inl rfl)
  rw [dr5_e] at j2
  obtain ⟨y6, I6, k1, k2, k3, k4⟩ := m_num (D := D) (K := K) (n := n) (Z := Z) ht j2 (0 : Int32) (9 : Int32) 0 9 rfl rfl (by decide) (by decide)
  rw [dr6_e] at k2 k4
  obtain ⟨I7, m1, m2, m3⟩ := m_sg (D := D) (K := K) (n := n) (Z := Z) ht k2 (59 : Int32) 59 rfl (Or.inr rfl)
  rw [dr7_e] at m2
  have f7 : FTk I I7 := ((((((i3.tr a3).tr b3).tr d3).tr f3).tr j3).tr k3).tr m3
  have hM7 : MH (I7 167) r := by rw [f7.1 167 (by decide)]; exact hM
  have h70 : I7 167 0 = nI (r 0) := hM7 0 (by decide)
  simp only [f_X12_readDoor, g162_15, bA_s, i15, m_kb _ (ht.2 _ hp), if_neg hk, b2_s, r162_6, l167_0, hr0]
  rw [i1]
  simp only [bA_s, c162, a1, r162_6, l167_1, e31, er, b1, b2_s, d1, f1, j1, k1, m1, g162_16, m2.z]
  by_cases y0 : (dr7 T t s r).2 = 0
  · obtain ⟨p1, p2, p3, p4, p5⟩ := dr_ok y0
    have hy2 := b4 p2.1
    have hy4 := f4 p3.1
    have hy6 := k4 p4
    have lt := lt54 p1
    have n0 := n0_a r
    simp only [if_pos y0, r162_6, bA_s, l167_0, h70, ep_0, ep_1, ep_15, ep_2, ep_3, ep_4, t167 (14 + 5 * r 0) _ lt.1, t167 (15 + 5 * r 0) _ lt.2.1, t167 (16 + 5 * r 0) _ lt.2.2.1, t167 (17 + 5 * r 0) _ lt.2.2.2.1, t167 (18 + 5 * r 0) _ lt.2.2.2.2, va_up_self, bx_uu, pk_un n0.1, pk_un n0.2.1, pk_un n0.2.2.1, pk_un n0.2.2.2.1, pk_un n0.2.2.2.2, z_i2, t167_0]
    refine ⟨va_up I7 167 (upd (upd (upd (upd (upd (upd (I7 167) (14 + 5 * r 0) (nI (kb (T s.1)))) (15 + 5 * r 0) y2) (16 + 5 * r 0) y4) (17 + 5 * r 0) y6) (18 + 5 * r 0) (0 : Int32)) 0 (nI (r 0 + 1))), ?_, m2.keep (va_up_ne _ _ (by decide)) (va_up_ne _ _ (by decide)), fun _ => ?_, fun x hx hy => by rw [va_up_ne _ _ hy, f7.1 x hx], fun j hj => by rw [va_up_ne _ _ (by decide), f7.2 j hj]⟩
    · rfl
    rw [pDr_e (x := (s, r)) y0, va_up_self]
    exact MH_addD hM7 hy2 hy4 hy6
  · simp only [if_neg y0, bA_s]
    exact ⟨I7, rfl, m2, fun q => absurd q y0, f7.m⟩
theorem m_doors_L (ht : TO T t) : ∀ (c fuel : Nat) (I : Nat → Nat → Int32) (x : PR), c < fuel → Ms T t I x.1 → (x.1.2 = 0 → MH (I 167) x.2 ∧ 1 ≤ x.2 1 ∧ x.2 1 ≤ 8 ∧ x.2 0 ≤ 8 ∧ 9 ≤ x.2 0 + c) → ∃ I', (∀ (β : Type) (kk : Hp → Option β) (y : Int32), f_X12_house_L155 kk 162 y fuel (enc I D K n Z) = kk (enc I' D K n Z)) ∧ Ms T t I' (pDl T t c x).1 ∧ ((pDl T t c x).1.2 = 0 → MH (I' 167) (pDl T t c x).2) ∧ FTm I I' := by
  intro c
  induction c with
  | zero =>
    intro fuel I x hf h hx
    obtain ⟨f, rfl⟩ : ∃ f, fuel = f + 1 := ⟨fuel - 1, by omega⟩
    have z : ¬ x.1.2 = 0 := fun z => by have := hx z; omega
    refine ⟨I, fun β kk y => ?_, h, fun q => absurd q z, FTm.rf I⟩
    rw [f_X12_house_L155, c162, bA_s, m_isS ht h, b2_s, if_neg (show ¬ (x.1.2 = 0 ∧ x.1.1 < t ∧ ¬ kb (T x.1.1) = 0) from fun w => z w.1), if_pos rfl]
  | succ c ih =>
    intro fuel I x hf h hx
    obtain ⟨f, rfl⟩ : ∃ f, fuel = f + 1 := ⟨fuel - 1, by omega⟩
    rw [pDl]
    by_cases y : x.1.2 = 0 ∧ x.1.1 < t ∧ ¬ kb (T x.1.1) = 0
    · obtain ⟨x1, x2, x3, x4, x5⟩ := hx y.1
      obtain ⟨I1, k1, k2, k3, k4⟩ := m_door1 (D := D) (K := K) (n := n) (Z := Z) ht h y.1 y.2.1 y.2.2 x1 x2 x3 x4
      have k2 : Ms T t I1 (pDr T t x).1 := k2
      have k3 : (pDr T t x).1.2 = 0 → MH (I1 167) (pDr T t x).2 := k3
      obtain ⟨I2, m1, m2, m3, m4⟩ := ih f I1 (pDr T t x) (by omega) k2 (fun q => by
        obtain ⟨p1, p2, p3⟩ := pDr_ok q
        exact ⟨k3 q, by omega, by omega, by omega, by omega⟩)
      rw [if_pos y]
      refine ⟨I2, fun β kk w => ?_, m2, m3, k4.tr m4⟩
      rw [f_X12_house_L155, c162, bA_s, m_isS ht h, b2_s, if_pos y, if_neg one0, c162, bA_s, k1, bA_s]
      exact m1 β kk w
    · rw [if_neg y]
      refine ⟨I, fun β kk w => ?_, h, fun q => (hx q).1, FTm.rf I⟩
      rw [f_X12_house_L155, c162, bA_s, m_isS ht h, b2_s, if_neg y, if_pos rfl]
end ReadO
