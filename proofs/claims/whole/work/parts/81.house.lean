section HouseCall
variable {I : Nat → Nat → Int32} {D : Nat → Nat → Option Nat} {K : Nat → Nat} {n N : Nat} {Z : Nat → Cl}
theorem k_house (h : Inv I D K n N) : GD Z N (enc I D K n Z) (fun h => f_X11_house h 0) (fun h => f_X12_house h 162) := by
  obtain ⟨h1, ⟨⟨t, t1, t2, t3, t4⟩, h3, h4', h5, h6⟩, h7, h8, h9', h10, h11⟩ := h
  obtain ⟨T, hT⟩ : ∃ T : Nat → Nat, ∀ j, j < t → T j ≤ 255 ∧ I 3 j = nI (T j) ∧ I 170 j = nI (T j) := ⟨fun j => (I 3 j).toNatClampNeg, fun j hj => by
    obtain ⟨b, b1, b2', b3'⟩ := t4 j hj
    have e : (I 3 j).toNatClampNeg = b := by rw [b2', nI_clamp (by omega)]
    show (I 3 j).toNatClampNeg ≤ 255 ∧ I 3 j = nI (I 3 j).toNatClampNeg ∧ I 170 j = nI (I 3 j).toNatClampNeg
    rw [e]; exact ⟨b1, b2', b3'⟩⟩
  have ht : TO T t := ⟨t1, fun j hj => (hT j hj).1⟩
  obtain ⟨I1, D1, K1, n1, a1, a2, a3, a4, a5, a6, a7, a8, a9, a10⟩ := c_read (Z := Z) ht t2 (fun j hj => (hT j hj).2.1) h11
  have W := pD2_wf (T := T) (t := t)
  have M := @m_house T t
  generalize pD2 T t = fin at a3 a4 a5 a10 W M
  generalize pD1 T t = x at a5 W M
  have ef : (nI fin.2 = (0 : Int32)) = (fin.2 = 0) := z_eq (by omega) (by decide)
  have u0 : I1 0 = I 0 := a8 0 (by decide) (by decide) (by decide) (by decide) (by decide)
  have u162 : I1 162 = I 162 := a8 162 (by decide) (by decide) (by decide) (by decide) (by decide)
  have u170 : I1 170 = I 170 := a8 170 (by decide) (by decide) (by decide) (by decide) (by decide)
  by_cases z : fin.2 = 0
  · obtain ⟨I3, D3, c1, c2', c3, c4', c5⟩ := c_become (I := I1) (D := D1) (K := K1) (n := n1) (Z := Z) (a := 9) (b := 4) h9 h4 (by decide) a6
    have wx : wf x.2 0 := (W z).1
    have cx : CH I1 D1 K1 n1 4 x.2 := a5 z
    obtain ⟨I4, e4⟩ : ∃ J, va_up (va_up I3 0 (upd (I3 0) 13 (0 : Int32))) 13 (upd (I3 13) 1 (0 : Int32)) = J := ⟨_, rfl⟩
    have f4 : ∀ y, y ≠ 0 → y ≠ 13 → I4 y = I3 y := fun y p q => by rw [← e4, va_up_ne _ _ q, va_up_ne _ _ p]
    have f40 : I4 0 = upd (I3 0) 13 0 := by rw [← e4, va_up_ne _ _ (by decide), va_up_self]
    have f413 : I4 13 = upd (I3 13) 1 0 := by rw [← e4, va_up_self]
    have c9' : CH I4 D3 K1 n1 9 x.2 := (cx.move wx.le8.1 wx.le8.2 c2' (DK.of (fun q hq => c3 q (by omega) (by omega) (by omega)))).cells wx.le8.1 wx.le8.2 (f4 _ (by decide) (by decide)) (f4 _ (by decide) (by decide)) (f4 _ (by decide) (by decide)) (fun q hq => f4 q (by omega) (by omega))
    have i162 : I4 162 = I 162 := by rw [f4 162 (by decide) (by decide), c3 162 (by decide) (by decide) (by decide), u162]
    have i170 : I4 170 = I 170 := by rw [f4 170 (by decide) (by decide), c3 170 (by decide) (by decide) (by decide), u170]
    obtain ⟨I5, m1, m2, m3, m4, m5, m6, m7⟩ := @M I4 D3 K1 n1 Z ht (by rw [i162]; exact t3) (fun j hj => by rw [i170]; exact (hT j hj).2.2) (nI (x.2 0)) (fun q => absurd z q) (fun _ => rfl)
    obtain ⟨m6a, m6b, m6c⟩ := m6 z
    rw [if_pos z] at m3
    have F : ∀ y, y < 162 → y ≠ 0 → y ≠ 2 → y ≠ 4 → y ≠ 5 → y ≠ 6 → y ≠ 9 → y ≠ 10 → y ≠ 11 → y ≠ 13 → I5 y = I y := fun y y0 y1 y2 y4 y5 y6 y9 y10 y11 y13 => by
      rw [m4 y (by omega) (by omega) (by omega), f4 y y1 y13, c3 y y9 y10 y11, a8 y (by omega) y2 y4 y5 y6]
    have F2 : ∀ y, 162 < y → y < 177 → y ≠ 166 → y ≠ 167 → I5 y = I y := fun y y0 y1 y2 y4 => by
      rw [m4 y (by omega) y2 y4, f4 y (by omega) (by omega), c3 y (by omega) (by omega) (by omega), a8 y y1 (by omega) (by omega) (by omega) (by omega)]
    have G : ∀ j, j ≠ 0 → j ≠ 9 → j ≠ 11 → j ≠ 18 → j ≠ 27 → (j < 12 ∨ 17 < j) → I5 162 j = I 162 j := fun j j0 j9 j11 j18 j27 hj => by rw [m5 j j0 j9 j11 j18 j27 hj, i162]
    have H0 : I5 0 = upd (I 0) 13 0 := by rw [m4 0 (by decide) (by decide) (by decide), f40, c3 0 (by decide) (by decide) (by decide), u0]
    have H13 : I5 13 1 = nI 0 := by rw [m4 13 (by decide) (by decide) (by decide), f413, pk_us]; rfl
    have H2 : I5 2 2 = nI 0 := by rw [m4 2 (by decide) (by decide) (by decide), f4 2 (by decide) (by decide), c3 2 (by decide) (by decide) (by decide)]; exact a2
    have FD' : ∀ y, y ≠ 7 → y ≠ 12 → D3 y = D y := fun y y7 y12 => by rw [c4' y y12, a9 y y7]
    have dk : DK I K n I5 K1 n1 := a7.trans (DK.of (fun q hq => by rw [m4 q (by omega) (by omega) (by omega), f4 q (by omega) (by omega), c3 q (by omega) (by omega) (by omega)]))
    have c5' : CH I5 D3 K1 n1 9 x.2 := c9'.cells wx.le8.1 wx.le8.2 (m4 _ (by decide) (by decide) (by decide)) (m4 _ (by decide) (by decide) (by decide)) (m4 _ (by decide) (by decide) (by decide)) (fun q hq => m4 q (by omega) (by omega) (by omega))
    refine ⟨nI (x.2 0), enc I4 D3 K1 n1 Z, I5, D3, K1, n1, ?_, m1, ?_⟩
    · simp only [f_X11_house, r0_1, bA_s, c2, a1, g2_4, a4, ef, if_pos z, r0_3, r2_1, c9, c1, c0, f_X11_forgetActs, p0_13, r0_4, c13, f_X6_clear, p13_1, va_up_ne _ _ (show 13 ≠ 0 by decide), e4, g9_4, c9'.1.2.1]
    · obtain ⟨o, c, o1, o2, o3, o4, o5, o6⟩ := h8
      refine ⟨h1.keep (fun y hy => ?_), ⟨⟨0, Nat.zero_le _, H2, m2, fun j hj => absurd hj (Nat.not_lt_zero j)⟩, ?_, ?_, ⟨0, Nat.zero_le _, H13, m6c, fun j hj => absurd hj (Nat.not_lt_zero j)⟩, h6.keep (by rw [F 26 (by decide) (by decide) (by decide) (by decide) (by decide) (by decide) (by decide) (by decide) (by decide) (by decide)]) (F 27 (by decide) (by decide) (by decide) (by decide) (by decide) (by decide) (by decide) (by decide) (by decide) (by decide)) (G 31 (by decide) (by decide) (by decide) (by decide) (by decide) (by omega)) (F2 176 (by decide) (by decide) (by decide) (by decide))⟩, ⟨x.2, c5', m6a, Or.inl (wx.mono (Nat.zero_le _))⟩, ⟨o, 0, o1, Nat.zero_le _, ?_, ?_, m6b, fun i hi => absurd hi (Nat.not_lt_zero i)⟩, h9'.keep (Nat.le_succ N) dk (fun y p q => ⟨F y (by omega) (by omega) (by omega) (by omega) (by omega) (by omega) (by omega) (by omega) (by omega) (by omega), FD' y (by omega) (by omega)⟩) (F2 174 (by decide) (by decide) (by decide) (by decide)) (F2 175 (by decide) (by decide) (by decide) (by decide)), h10.keep (fun y hy => FD' y (by omega) (by omega)), c5⟩
      · rcases hy with hy | hy
        · exact F y (by omega) (by omega) (by omega) (by omega) (by omega) (by omega) (by omega) (by omega) (by omega) (by omega)
        · exact F2 y (by omega) (by omega) (by omega) (by omega)
      · rw [H0, pk_un (by decide), m3, i162]; exact h3
      · rw [H0, pk_un (by decide), G 1 (by decide) (by decide) (by decide) (by decide) (by decide) (by omega)]; exact h4'
      · rw [H0, pk_un (by decide)]; exact o3
      · rw [H0, pk_us]; rfl
  · obtain ⟨V, hV⟩ : ∃ V : Int32, ∀ y : Int32, y = nI fin.1 → (-1000100 : Int32) - y = V := ⟨(-1000100 : Int32) - nI fin.1, fun y hy => by rw [hy]⟩
    obtain ⟨I4, e4⟩ : ∃ J, va_up I1 0 (upd (I1 0) 14 (nI fin.2)) = J := ⟨_, rfl⟩
    have f4 : ∀ y, y ≠ 0 → I4 y = I1 y := fun y p => by rw [← e4, va_up_ne _ _ p]
    have f40 : I4 0 = upd (I 0) 14 (nI fin.2) := by rw [← e4, va_up_self, u0]
    have i162 : I4 162 = I 162 := by rw [f4 162 (by decide), u162]
    have i170 : I4 170 = I 170 := by rw [f4 170 (by decide), u170]
    obtain ⟨I5, m1, m2, m3, m4, m5, m6, m7⟩ := @M I4 D1 K1 n1 Z ht (by rw [i162]; exact t3) (fun j hj => by rw [i170]; exact (hT j hj).2.2) V (fun _ => hV) (fun q => absurd q z)
    obtain ⟨m7a, m7b, m7c⟩ := m7 z
    rw [if_neg z] at m3
    have F : ∀ y, y < 162 → y ≠ 0 → y ≠ 2 → y ≠ 4 → y ≠ 5 → y ≠ 6 → I5 y = I y := fun y y0 y1 y2 y4 y5 y6 => by
      rw [m4 y (by omega) (by omega) (by omega), f4 y y1, a8 y (by omega) y2 y4 y5 y6]
    have F2 : ∀ y, 162 < y → y < 177 → y ≠ 166 → y ≠ 167 → I5 y = I y := fun y y0 y1 y2 y4 => by
      rw [m4 y (by omega) y2 y4, f4 y (by omega), a8 y y1 (by omega) (by omega) (by omega) (by omega)]
    have G : ∀ j, j ≠ 0 → j ≠ 9 → j ≠ 11 → j ≠ 18 → j ≠ 27 → (j < 12 ∨ 17 < j) → I5 162 j = I 162 j := fun j j0 j9 j11 j18 j27 hj => by rw [m5 j j0 j9 j11 j18 j27 hj, i162]
    have H0 : I5 0 = upd (I 0) 14 (nI fin.2) := by rw [m4 0 (by decide) (by decide) (by decide), f40]
    have H2 : I5 2 2 = nI 0 := by rw [m4 2 (by decide) (by decide) (by decide), f4 2 (by decide)]; exact a2
    have H166 : I5 166 = I 166 := by rw [m7a, f4 166 (by decide), a8 166 (by decide) (by decide) (by decide) (by decide) (by decide)]
    have dk : DK I K n I5 K1 n1 := a7.trans (DK.of (fun q hq => by rw [m4 q (by omega) (by omega) (by omega), f4 q (by omega)]))
    refine ⟨V, enc I4 D1 K1 n1 Z, I5, D1, K1, n1, ?_, m1, ?_⟩
    · have i23 : I4 2 3 = nI fin.1 := by rw [f4 2 (by decide)]; exact a3
      simp only [f_X11_house, r0_1, bA_s, c2, a1, g2_4, a4, ef, if_neg z, p0_14, e4, g2_3]
      rw [hV _ i23]
    · refine ⟨h1.keep (fun y hy => ?_), ⟨⟨0, Nat.zero_le _, H2, m2, fun j hj => absurd hj (Nat.not_lt_zero j)⟩, ?_, ?_, h5.keep (by rw [F 13 (by decide) (by decide) (by decide) (by decide) (by decide) (by decide)]) (F 14 (by decide) (by decide) (by decide) (by decide) (by decide) (by decide)) (by rw [m7c, i162]) (F2 173 (by decide) (by decide) (by decide) (by decide)), h6.keep (by rw [F 26 (by decide) (by decide) (by decide) (by decide) (by decide) (by decide)]) (F 27 (by decide) (by decide) (by decide) (by decide) (by decide) (by decide)) (G 31 (by decide) (by decide) (by decide) (by decide) (by decide) (by omega)) (F2 176 (by decide) (by decide) (by decide) (by decide))⟩, h7.keep (Nat.le_succ N) dk (fun y p q => F y (by omega) (by omega) (by omega) (by omega) (by omega) (by omega)) (a9 12 (by decide)) H166, h8.keep (Nat.le_succ N) dk (by rw [H0, pk_un (by decide)]) (by rw [H0, pk_un (by decide)]) (by rw [m7b, i162]) (fun y p q => ⟨F y (by omega) (by omega) (by omega) (by omega) (by omega) (by omega), a9 y (by omega)⟩) (F2 169 (by decide) (by decide) (by decide) (by decide)), h9'.keep (Nat.le_succ N) dk (fun y p q => ⟨F y (by omega) (by omega) (by omega) (by omega) (by omega) (by omega), a9 y (by omega)⟩) (F2 174 (by decide) (by decide) (by decide) (by decide)) (F2 175 (by decide) (by decide) (by decide) (by decide)), h10.keep (fun y hy => a9 y (by omega)), a6⟩
      · rcases hy with hy | hy
        · exact F y (by omega) (by omega) (by omega) (by omega) (by omega) (by omega)
        · exact F2 y (by omega) (by omega) (by omega) (by omega)
      · rw [H0, pk_us, m3]
      · rw [H0, pk_un (by decide), G 1 (by decide) (by decide) (by decide) (by decide) (by decide) (by omega)]; exact h4'
end HouseCall
