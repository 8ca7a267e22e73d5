/-! CALLS ABOUT ROWS AND THE TAPE -/
theorem va_sw {α : Type} (f : Nat → α) {a b : Nat} (h : a ≠ b) (v w : α) : va_up (va_up f a v) b w = va_up (va_up f b w) a v := by
  funext k
  by_cases e : k = a
  · subst e; rw [va_up_ne _ _ h, va_up_self, va_up_self]
  · by_cases e2 : k = b
    · subst e2; rw [va_up_self, va_up_ne _ _ e, va_up_self]
    · rw [va_up_ne _ _ e2, va_up_ne _ _ e, va_up_ne _ _ e, va_up_ne _ _ e2]
section RowCalls
variable {I I' : Nat → Nat → Int32} {D : Nat → Nat → Option Nat} {K : Nat → Nat} {n N : Nat} {Z : Nat → Cl}
theorem Inv.tape (h : Inv I D K n N) (f : ∀ x, x ≠ 2 → x ≠ 3 → x ≠ 162 → x ≠ 170 → I' x = I x) (f2 : ∀ j, j ≠ 0 → j ≠ 11 → I' 162 j = I 162 j) (ht : TapeI I') : Inv I' D K n (N + 1) := by
  obtain ⟨h1, ⟨h2, h3, h4, h5, h6⟩, h7, h8, h9, h10, h11⟩ := h
  have g : DK I K n I' K n := DK.of (fun q hq => f q (by omega) (by omega) (by omega) (by omega))
  refine ⟨h1.keep (fun x hx => f x (by omega) (by omega) (by omega) (by omega)), ⟨ht, ?_, ?_, h5.keep (by rw [f 13 (by decide) (by decide) (by decide) (by decide)]) (f 14 (by decide) (by decide) (by decide) (by decide)) (f2 27 (by decide) (by decide)) (f 173 (by decide) (by decide) (by decide) (by decide)), h6.keep (by rw [f 26 (by decide) (by decide) (by decide) (by decide)]) (f 27 (by decide) (by decide) (by decide) (by decide)) (f2 31 (by decide) (by decide)) (f 176 (by decide) (by decide) (by decide) (by decide))⟩, h7.keep (by omega) g (fun x a b => f x (by omega) (by omega) (by omega) (by omega)) rfl (f 166 (by decide) (by decide) (by decide) (by decide)), h8.keep (by omega) g (by rw [f 0 (by decide) (by decide) (by decide) (by decide)]) (by rw [f 0 (by decide) (by decide) (by decide) (by decide)]) (f2 9 (by decide) (by decide)) (fun x a b => ⟨f x (by omega) (by omega) (by omega) (by omega), rfl⟩) (f 169 (by decide) (by decide) (by decide) (by decide)), h9.keep (by omega) g (fun x a b => ⟨f x (by omega) (by omega) (by omega) (by omega), rfl⟩) (f 174 (by decide) (by decide) (by decide) (by decide)) (f 175 (by decide) (by decide) (by decide) (by decide)), h10, h11⟩
  · rw [f 0 (by decide) (by decide) (by decide) (by decide), f2 18 (by decide) (by decide)]; exact h3
  · rw [f 0 (by decide) (by decide) (by decide) (by decide), f2 1 (by decide) (by decide)]; exact h4
theorem Inv.rows (h : Inv I D K n N) (f : ∀ x, (x < 30 ∨ 46 ≤ x) → x ≠ 0 → (x < 162 ∨ 165 < x) → I' x = I x) (f0 : ∀ j, j ≠ 15 → I' 0 j = I 0 j) (f2 : ∀ j, j ≠ 0 → j ≠ 1 → I' 162 j = I 162 j) (hs : I' 0 15 = I' 162 1) (ht : RowsI I') : Inv I' D K n (N + 1) := by
  obtain ⟨h1, ⟨h2, h3, h4, h5, h6⟩, h7, h8, h9, h10, h11⟩ := h
  have g : DK I K n I' K n := DK.of (fun q hq => f q (by omega) (by omega) (by omega))
  refine ⟨ht, ⟨h2.keep (by rw [f 2 (by omega) (by omega) (by omega)]) (f 3 (by omega) (by omega) (by omega)) (f2 11 (by decide) (by decide)) (f 170 (by omega) (by omega) (by omega)), ?_, hs, h5.keep (by rw [f 13 (by omega) (by omega) (by omega)]) (f 14 (by omega) (by omega) (by omega)) (f2 27 (by decide) (by decide)) (f 173 (by omega) (by omega) (by omega)), h6.keep (by rw [f 26 (by omega) (by omega) (by omega)]) (f 27 (by omega) (by omega) (by omega)) (f2 31 (by decide) (by decide)) (f 176 (by omega) (by omega) (by omega))⟩, h7.keep (by omega) g (fun x a b => f x (by omega) (by omega) (by omega)) rfl (f 166 (by omega) (by omega) (by omega)), h8.keep (by omega) g (f0 12 (by decide)) (f0 13 (by decide)) (f2 9 (by decide) (by decide)) (fun x a b => ⟨f x (by omega) (by omega) (by omega), rfl⟩) (f 169 (by omega) (by omega) (by omega)), h9.keep (by omega) g (fun x a b => ⟨f x (by omega) (by omega) (by omega), rfl⟩) (f 174 (by omega) (by omega) (by omega)) (f 175 (by omega) (by omega) (by omega)), h10, h11⟩
  rw [f0 14 (by decide), f2 18 (by decide) (by decide)]; exact h3
theorem k_feed (h : Inv I D K n N) (x : Int32) : GD Z N (enc I D K n Z) (fun h => f_X11_feed h 0 x) (fun h => f_X12_feed h 162 x) := by
  obtain ⟨t, t1, t2, t3, t4⟩ := h.2.1.1
  have hin : ∀ h : Hp, f_X12_in h x.toInt64 (0 : Int64) (255 : Int64) = some (if (0 : Int) ≤ x.toInt ∧ x.toInt ≤ 255 then 1 else 0, h) := by
    intro h
    have := m_inL h x 0 255 (by decide) (by decide)
    rw [show (nI 0).toInt64 = (0 : Int64) by decide, show (nI 255).toInt64 = (255 : Int64) by decide] at this
    exact this
  by_cases hx : (0 : Int) ≤ x.toInt ∧ x.toInt ≤ 255
  · obtain ⟨b, hb, rfl⟩ := (ix_in (x := x) (m := 256) (by decide)).mp ⟨hx.1, by omega⟩
    have c255 : nI b ≤ (255 : Int32) := nI_le (b := 255) (by omega) (by decide)
    have c110 : (nI t < (110 : Int32)) = (t < 110) := z_lt (by omega) (by decide)
    have e110 : (nI t = (110 : Int32)) = (t = 110) := z_eq (by omega) (by decide)
    by_cases ht : t = 110
    · refine ⟨-1000003, enc I D K n Z, _, D, K, n, ?_, ?_, h.thrown⟩
      · simp only [f_X11_feed, if_neg (nI_pos (show b < 2 ^ 31 by omega)), if_pos c255, r0_1, bA_s, c2, f_X7_isFull, g2_2, t2, c110, if_neg (show ¬ t < 110 by omega), bz1, b2_s, if_neg (show ¬ (1 : Int32) = 0 by decide)]
      · simp only [f_X12_feed, p162_0, bA_s, hin, if_pos hx, b2_s, if_neg (show ¬ (1 : Int32) = 0 by decide), g162_11, va_up_self, pk_un (show 11 ≠ 0 by decide), t3, e110, if_pos ht]
    · have hl : t < 110 := by omega
      refine ⟨nI (t + 1), enc (va_up (va_up I 3 (upd (I 3) t (nI b))) 2 (upd (I 2) 2 (nI (t + 1)))) D K n Z, va_up (va_up (va_up (va_up I 3 (upd (I 3) t (nI b))) 2 (upd (I 2) 2 (nI (t + 1)))) 170 (upd (I 170) t (nI b))) 162 (upd (upd (I 162) 0 0) 11 (nI (t + 1))), D, K, n, ?_, ?_, ?_⟩
      · simp only [f_X11_feed, if_neg (nI_pos (show b < 2 ^ 31 by omega)), if_pos c255, r0_1, bA_s, c2, f_X7_isFull, g2_2, t2, c110, if_pos hl, bz0, b2_s, if_true, f_X7_take, r2_0, ast_n s_3 t _ hl (by decide), va_up_ne I _ (show 2 ≠ 3 by decide), p2_2, z_i2, va_up_self, pk_us]
      · simp only [f_X12_feed, p162_0, bA_s, hin, if_pos hx, b2_s, if_neg (show ¬ (1 : Int32) = 0 by decide), g162_11, va_up_self, pk_un (show 11 ≠ 0 by decide), va_up_ne _ _ (show 162 ≠ 2 by decide), va_up_ne _ _ (show 162 ≠ 3 by decide), t3, e110, if_neg ht, r162_10, ast_n s_170 t _ hl (by decide), p162_11, z_i2, pk_us, va_up_ne _ _ (show 170 ≠ 2 by decide), va_up_ne _ _ (show 170 ≠ 3 by decide), va_up_ne _ _ (show 170 ≠ 162 by decide), va_up_ne _ _ (show 162 ≠ 170 by decide)]
        congr 3
        rw [va_sw _ (show 162 ≠ 170 by decide), bx_uu]
      · refine h.tape (fun x a b c d => ?_) (fun j a b => ?_) ⟨t + 1, by omega, ?_, ?_, fun j hj => ?_⟩
        · rw [va_up_ne _ _ c, va_up_ne _ _ d, va_up_ne _ _ a, va_up_ne _ _ b]
        · rw [va_up_self, pk_un b, pk_un a]
        · rw [va_up_ne _ _ (by decide), va_up_ne _ _ (by decide), va_up_self, pk_us]
        · rw [va_up_self, pk_us]
        · have e3 : (va_up (va_up (va_up (va_up I 3 (upd (I 3) t (nI b))) 2 (upd (I 2) 2 (nI (t + 1)))) 170 (upd (I 170) t (nI b))) 162 (upd (upd (I 162) 0 0) 11 (nI (t + 1)))) 3 = upd (I 3) t (nI b) := by
            rw [va_up_ne _ _ (by decide), va_up_ne _ _ (by decide), va_up_ne _ _ (by decide), va_up_self]
          have e170 : (va_up (va_up (va_up (va_up I 3 (upd (I 3) t (nI b))) 2 (upd (I 2) 2 (nI (t + 1)))) 170 (upd (I 170) t (nI b))) 162 (upd (upd (I 162) 0 0) 11 (nI (t + 1)))) 170 = upd (I 170) t (nI b) := by
            rw [va_up_ne _ _ (by decide), va_up_self]
          rw [e3, e170]
          by_cases e : j = t
          · subst e; exact ⟨b, by omega, by rw [pk_us], by rw [pk_us]⟩
          · obtain ⟨c, c1, c2, c3⟩ := t4 j (by omega)
            exact ⟨c, c1, by rw [pk_un e]; exact c2, by rw [pk_un e]; exact c3⟩
  · refine ⟨-1000001, enc I D K n Z, _, D, K, n, ?_, ?_, h.thrown⟩
    · by_cases h0 : x < 0
      · simp only [f_X11_feed, if_pos h0]
      · have h0' := fa_of_nlt h0
        rw [fa_le, i32z] at h0'
        have h5 : ¬ x ≤ (255 : Int32) := by
          rw [fa_le, show (255 : Int32).toInt = 255 by decide]; omega
        simp only [f_X11_feed, if_neg h0, if_neg h5]
    · simp only [f_X12_feed, p162_0, bA_s, hin, if_neg hx, b2_s, if_true]
theorem c_isMissing {k : Nat} (hk : k < 8) : f_X8_isMissing (enc I D K n Z) (30 + 2 * k) = some (if 0 ≤ I (30 + 2 * k) 1 then 0 else 1, enc I D K n Z) := by
  simp only [f_X8_isMissing, gI_e (s_R hk) 1 rfl, bA_s]
  by_cases e : 0 ≤ I (30 + 2 * k) 1
  · simp only [if_pos e, bA_s, bz0]
  · simp only [if_neg e, bA_s, bz1]
theorem c_holds {k m : Nat} (hk : k < 8) (hm : m ≤ 40) (h2 : I (30 + 2 * k) 2 = nI m) (x y : Int32) : f_X8_holds (enc I D K n Z) (30 + 2 * k) x y = some (if 0 ≤ x.toInt ∧ 0 ≤ y.toInt ∧ x.toInt + y.toInt ≤ m then 1 else 0, enc I D K n Z) := by
  simp only [f_X8_holds, gI_e (s_R hk) 2 rfl, bA_s, h2]
  by_cases hx : x < 0
  · have := (fa_lt x 0).mp hx
    rw [i32z] at this
    simp only [if_pos hx, bA_s, bz0, if_neg (show ¬ (0 ≤ x.toInt ∧ 0 ≤ y.toInt ∧ x.toInt + y.toInt ≤ (m : Int)) by omega)]
  · have hx' := fa_of_nlt hx
    rw [fa_le, i32z] at hx'
    simp only [if_neg hx]
    by_cases hy : y < 0
    · have := (fa_lt y 0).mp hy
      rw [i32z] at this
      simp only [if_pos hy, bA_s, bz0, if_neg (show ¬ (0 ≤ x.toInt ∧ 0 ≤ y.toInt ∧ x.toInt + y.toInt ≤ (m : Int)) by omega)]
    · have hy' := fa_of_nlt hy
      rw [fa_le, i32z] at hy'
      simp only [if_neg hy]
      by_cases hmy : nI m < y
      · have := (fa_lt _ y).mp hmy
        rw [toInt_nI (by omega)] at this
        simp only [if_pos hmy, bA_s, bz0, if_neg (show ¬ (0 ≤ x.toInt ∧ 0 ≤ y.toInt ∧ x.toInt + y.toInt ≤ (m : Int)) by omega)]
      · have hmy' := fa_of_nlt hmy
        rw [fa_le, toInt_nI (by omega)] at hmy'
        simp only [if_neg hmy]
        obtain ⟨y0, hy0, rfl⟩ := (ix_in (x := y) (m := 41) (by decide)).mp ⟨hy', by omega⟩
        rw [toInt_nI (by omega)] at hmy' ⊢
        rw [pk_sub (show y0 ≤ m by omega)]
        by_cases hd : nI (m - y0) < x
        · have := (fa_lt _ x).mp hd
          rw [toInt_nI (by omega)] at this
          simp only [if_pos hd, bA_s, bz0, if_neg (show ¬ (0 ≤ x.toInt ∧ 0 ≤ (y0 : Int) ∧ x.toInt + (y0 : Int) ≤ (m : Int)) by omega)]
        · have hd' := fa_of_nlt hd
          rw [fa_le, toInt_nI (by omega)] at hd'
          simp only [if_neg hd, bA_s, bz1, if_pos (show (0 ≤ x.toInt ∧ 0 ≤ (y0 : Int) ∧ x.toInt + (y0 : Int) ≤ (m : Int)) by omega)]
theorem nn1 : ¬ (0 : Int32) ≤ -1 := by decide
theorem one0 : ¬ (1 : Int32) = 0 := by decide
theorem zle (k : Nat) (hk : k < 2 ^ 31) : (0 : Int32) ≤ nI k := fa_of_nlt (nI_pos hk)
/-- the row that a call names, in both -/
theorem row_cases (h : RowsI I) (k : Nat) (hk : k < 8) : (¬ (0 : Int32) ≤ I 163 k ∧ ¬ (0 : Int32) ≤ I (30 + 2 * k) 1 ∧ I 163 k < 0) ∨ (∃ l m, l ≤ 2 ∧ m ≤ 40 ∧ I 163 k = nI l ∧ I (30 + 2 * k) 1 = nI l ∧ I 164 k = nI m ∧ I (30 + 2 * k) 2 = nI m ∧ (0 : Int32) ≤ nI l ∧ ¬ nI l < 0 ∧ ∀ j, j < m → I (31 + 2 * k) j = I 165 (40 * k + j)) := by
  rcases h k hk with ⟨h1, h2⟩ | ⟨l, m, h1, h2, h3, h4, h5, h6, h7⟩
  · left; rw [h1, h2]; exact ⟨nn1, nn1, by decide⟩
  · right; exact ⟨l, m, h1, h2, h3, h4, h5, h6, zle l (by omega), nI_pos (by omega), h7⟩
theorem stI_0 (I : Nat → Nat → Int32) (f : Int32) : va_up (va_up I 0 (upd (I 0) 15 f)) 162 (upd (upd (upd (I 162) 0 0) 1 0) 1 f) = stI I f := by rw [fa_upd_twice]; rfl
theorem k_drop (h : Inv I D K n N) (x : Int32) : GD Z N (enc I D K n Z) (fun h => f_X11_drop h 0 x) (fun h => f_X12_drop h 162 x) := by
  by_cases hx : 0 ≤ x.toInt ∧ x.toInt < 8
  · obtain ⟨k, hk, rfl⟩ := (ix_in (m := 8) (by decide)).mp hx
    have hD := h.2.2.2.2.2.1.1 k hk
    rcases row_cases h.1 k hk with ⟨q1, q2, q3⟩ | ⟨l, m, q1, q2, q3, q4, q5, q6, q7, q8, q9⟩
    · refine ⟨-1000010 - 1, enc (va_up I 0 (upd (I 0) 15 1)) D K n Z, stI I 1, D, K, n, ?_, ?_, h.told 1⟩
      · simp only [f_X11_drop, c_lacksRow, if_pos hx, b2_s, if_true, r0_0, bA_s, aldn_e s_1 k hk (by decide), hD, isC_e (s_R hk), c_isMissing hk, if_neg q2, if_neg one0, c0, f_X11_found, p0_15]
      · simp only [f_X12_drop, m_isRow, if_pos hx, b2_s, if_neg one0, p162_0, bA_s, p162_1, r162_2, ald_n s_163 k hk (by decide), va_up_ne _ _ (show 163 ≠ 162 by decide), va_up_ne _ _ (show 163 ≠ 0 by decide), va_up_ne _ _ (show 162 ≠ 0 by decide), if_neg q1, c162, f_X12_finding, va_up_self, bx_uu, stI_0]
    · refine ⟨nI m, enc (va_up (va_up I (30 + 2 * k) (upd (upd (I (30 + 2 * k)) 1 (-1)) 2 0)) 0 (upd (I 0) 15 0)) D K n Z, va_up (va_up (va_up (va_up I (30 + 2 * k) (upd (upd (I (30 + 2 * k)) 1 (-1)) 2 0)) 0 (upd (I 0) 15 0)) 162 (upd (upd (I 162) 0 0) 1 0)) 163 (upd (I 163) k (-1)), D, K, n, ?_, ?_, ?_⟩
      · simp only [f_X11_drop, c_lacksRow, if_pos hx, b2_s, if_true, r0_0, bA_s, aldn_e s_1 k hk (by decide), hD, isC_e (s_R hk), c_isMissing hk, q4, if_pos q7, gI_e (s_R hk) 2 rfl, q6, f_X8_end, pV_e (s_R hk) 1 rfl, pV_e (s_R hk) 2 rfl, va_up_self, bx_uu, c0, f_X11_well, p0_15, va_up_ne _ _ (show 0 ≠ 30 + 2 * k by omega)]
      · simp only [f_X12_drop, m_isRow, if_pos hx, b2_s, if_neg one0, p162_0, bA_s, p162_1, r162_2, ald_n s_163 k hk (by decide), va_up_ne _ _ (show 163 ≠ 162 by decide), va_up_ne _ _ (show 163 ≠ 0 by decide), va_up_ne _ _ (show 163 ≠ 30 + 2 * k by omega), va_up_ne _ _ (show 162 ≠ 30 + 2 * k by omega), va_up_ne _ _ (show 162 ≠ 0 by decide), va_up_self, bx_uu, q3, if_pos q7, ast_n s_163 k _ hk (by decide), r162_3, ald_n s_164 k hk (by decide), va_up_ne _ _ (show 164 ≠ 163 by decide), va_up_ne _ _ (show 164 ≠ 162 by decide), va_up_ne _ _ (show 164 ≠ 0 by decide), va_up_ne _ _ (show 164 ≠ 30 + 2 * k by omega), q5]
      · refine h.rows (fun x a b c => ?_) (fun j hj => ?_) (fun j a b => ?_) ?_ (fun i hi => ?_)
        · rw [va_up_ne _ _ (by omega), va_up_ne _ _ (by omega), va_up_ne _ _ (by omega), va_up_ne _ _ (by omega)]
        · rw [va_up_ne _ _ (by omega), va_up_ne _ _ (by omega), va_up_self, pk_un hj]
        · rw [va_up_ne _ _ (by omega), va_up_self, pk_un b, pk_un a]
        · rw [va_up_ne _ _ (by omega), va_up_ne _ _ (by omega), va_up_self, pk_us, va_up_ne _ _ (by omega), va_up_self, pk_us]
        · by_cases e : i = k
          · subst e
            left
            refine ⟨by rw [va_up_self, pk_us], ?_⟩
            rw [va_up_ne _ _ (by omega), va_up_ne _ _ (by omega), va_up_ne _ _ (by omega), va_up_self]; rfl
          · have f : ∀ x, x ≠ 163 → x ≠ 162 → x ≠ 0 → x ≠ 30 + 2 * k → (va_up (va_up (va_up (va_up I (30 + 2 * k) (upd (upd (I (30 + 2 * k)) 1 (-1)) 2 0)) 0 (upd (I 0) 15 0)) 162 (upd (upd (I 162) 0 0) 1 0)) 163 (upd (I 163) k (-1))) x = I x := fun x a b c d => by rw [va_up_ne _ _ a, va_up_ne _ _ b, va_up_ne _ _ c, va_up_ne _ _ d]
            rw [f (30 + 2 * i) (by omega) (by omega) (by omega) (by omega), f (31 + 2 * i) (by omega) (by omega) (by omega) (by omega), f 164 (by omega) (by omega) (by omega) (by omega), f 165 (by omega) (by omega) (by omega) (by omega), va_up_self, pk_un e]
            exact h.1 i hi
  · refine ⟨-1000001, enc I D K n Z, _, D, K, n, ?_, ?_, h.thrown⟩
    · simp only [f_X11_drop, c_lacksRow, if_neg hx, b2_s, if_neg one0]
    · simp only [f_X12_drop, m_isRow, if_neg hx, b2_s, if_true, p162_0, bA_s]
end RowCalls
