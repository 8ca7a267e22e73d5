/-! WHAT HOLDS BETWEEN CALLS -/
def RowsI (I : Nat → Nat → Int32) : Prop := ∀ k, k < 8 → (I 163 k = -1 ∧ I (30 + 2 * k) 1 = -1) ∨ (∃ l m, l ≤ 2 ∧ m ≤ 40 ∧ I 163 k = nI l ∧ I (30 + 2 * k) 1 = nI l ∧ I 164 k = nI m ∧ I (30 + 2 * k) 2 = nI m ∧ ∀ j, j < m → I (31 + 2 * k) j = I 165 (40 * k + j))
def TapeI (I : Nat → Nat → Int32) : Prop := ∃ t, t ≤ 110 ∧ I 2 2 = nI t ∧ I 162 11 = nI t ∧ ∀ j, j < t → ∃ b, b ≤ 255 ∧ I 3 j = nI b ∧ I 170 j = nI b
def LedgI (I : Nat → Nat → Int32) : Prop := ∃ t, t ≤ 17 ∧ I 13 1 = nI t ∧ I 162 27 = nI t ∧ ∀ j, j < t → I 14 j = I 173 j
def TraceI (I : Nat → Nat → Int32) : Prop := ∃ t, t ≤ 16 ∧ I 26 1 = nI t ∧ I 162 31 = nI t ∧ ∀ j, j < t → I 27 j = I 176 j
def HouseI (I : Nat → Nat → Int32) (D : Nat → Nat → Option Nat) (K : Nat → Nat) (n N : Nat) : Prop := ∃ r, CH I D K n 9 r ∧ MH (I 166) r ∧ (wf r N ∨ ∀ j, r j = 0)
def ActsI (I : Nat → Nat → Int32) (D : Nat → Nat → Option Nat) (K : Nat → Nat) (n N : Nat) : Prop := ∃ o c, o < 24 ∧ c ≤ 24 ∧ I 0 12 = nI o ∧ I 0 13 = nI c ∧ I 162 9 = nI c ∧ ∀ i, i < c → ∃ r, wf r N ∧ CH I D K n (46 + 4 * ((o + i) % 24)) r ∧ ∀ j, j < 54 → I 169 (54 * i + j) = nI (r j)
def ImgI (I : Nat → Nat → Int32) (D : Nat → Nat → Option Nat) (K : Nat → Nat) (n N : Nat) : Prop := ∀ k, k < 2 → (I 174 k = 0 ∧ I (142 + 4 * k) 3 = nI 0) ∨ (I 174 k = 1 ∧ ∃ r, wf r N ∧ CH I D K n (142 + 4 * k) r ∧ ∀ j, j < 54 → I 175 (54 * k + j) = nI (r j))
def RefI (D : Nat → Nat → Option Nat) : Prop := (∀ k, k < 8 → D 1 k = some (30 + 2 * k)) ∧ (∀ k, k < 24 → D 24 k = some (46 + 4 * k)) ∧ (∀ k, k < 2 → D 25 k = some (142 + 4 * k)) ∧ (∀ k, k < 3 → D 28 k = some (150 + 4 * k))
def Inv (I : Nat → Nat → Int32) (D : Nat → Nat → Option Nat) (K : Nat → Nat) (n N : Nat) : Prop := RowsI I ∧ (TapeI I ∧ I 0 14 = I 162 18 ∧ I 0 15 = I 162 1 ∧ LedgI I ∧ TraceI I) ∧ HouseI I D K n N ∧ ActsI I D K n N ∧ ImgI I D K n N ∧ RefI D ∧ DV D K n
section Inv
variable {I I' : Nat → Nat → Int32} {D D' : Nat → Nat → Option Nat} {K K' : Nat → Nat} {n n' N N' : Nat} {Z : Nat → Cl}
theorem RowsI.keep (h : RowsI I) (e : ∀ x, ((30 ≤ x ∧ x ≤ 45) ∨ (163 ≤ x ∧ x ≤ 165)) → I' x = I x) : RowsI I' := by
  intro k hk
  rw [e 163 (by omega), e (30 + 2 * k) (by omega), e (31 + 2 * k) (by omega), e 164 (by omega), e 165 (by omega)]
  exact h k hk
theorem TapeI.keep (h : TapeI I) (e : I' 2 2 = I 2 2) (e3 : I' 3 = I 3) (e1 : I' 162 11 = I 162 11) (e2 : I' 170 = I 170) : TapeI I' := by
  unfold TapeI; rw [e, e3, e1, e2]; exact h
theorem LedgI.keep (h : LedgI I) (e : I' 13 1 = I 13 1) (e3 : I' 14 = I 14) (e1 : I' 162 27 = I 162 27) (e2 : I' 173 = I 173) : LedgI I' := by
  unfold LedgI; rw [e, e3, e1, e2]; exact h
theorem TraceI.keep (h : TraceI I) (e : I' 26 1 = I 26 1) (e3 : I' 27 = I 27) (e1 : I' 162 31 = I 162 31) (e2 : I' 176 = I 176) : TraceI I' := by
  unfold TraceI; rw [e, e3, e1, e2]; exact h
theorem wf.le8 {r : Ro} (h : wf r N) : r 1 ≤ 8 ∧ r 0 ≤ 8 := ⟨h.1.2, h.2.1.2⟩
theorem ho8 {r : Ro} (h : wf r N ∨ ∀ j, r j = 0) : r 1 ≤ 8 ∧ r 0 ≤ 8 := by
  rcases h with h | h
  · exact h.le8
  · rw [h 1, h 0]; exact ⟨by decide, by decide⟩
theorem HouseI.keep (h : HouseI I D K n N) (hN : N ≤ N') (g : DK I K n I' K' n') (e : ∀ x, 9 ≤ x → x ≤ 11 → I' x = I x) (e2 : D' 12 = D 12) (e3 : I' 166 = I 166) : HouseI I' D' K' n' N' := by
  obtain ⟨r, h1, h2, h3⟩ := h
  refine ⟨r, h1.move (ho8 h3).1 (ho8 h3).2 (HF.self (e 9 (by omega) (by omega)) (e 10 (by omega) (by omega)) (e 11 (by omega) (by omega)) e2) g, by rw [e3]; exact h2, ?_⟩
  rcases h3 with h3 | h3
  · exact Or.inl (h3.mono hN)
  · exact Or.inr h3
theorem ActsI.keep (h : ActsI I D K n N) (hN : N ≤ N') (g : DK I K n I' K' n') (e1 : I' 0 12 = I 0 12) (e2 : I' 0 13 = I 0 13) (e3 : I' 162 9 = I 162 9) (e : ∀ x, 46 ≤ x → x ≤ 141 → I' x = I x ∧ D' x = D x) (e4 : I' 169 = I 169) : ActsI I' D' K' n' N' := by
  obtain ⟨o, c, h1, h2, h3, h4, h5, h6⟩ := h
  refine ⟨o, c, h1, h2, by rw [e1]; exact h3, by rw [e2]; exact h4, by rw [e3]; exact h5, fun i hi => ?_⟩
  obtain ⟨r, k1, k2, k3⟩ := h6 i hi
  have hm : (o + i) % 24 < 24 := Nat.mod_lt _ (by decide)
  exact ⟨r, k1.mono hN, k2.move k1.le8.1 k1.le8.2 (HF.self (e _ (by omega) (by omega)).1 (e _ (by omega) (by omega)).1 (e _ (by omega) (by omega)).1 (e _ (by omega) (by omega)).2) g, by rw [e4]; exact k3⟩
theorem ImgI.keep (h : ImgI I D K n N) (hN : N ≤ N') (g : DK I K n I' K' n') (e : ∀ x, 142 ≤ x → x ≤ 149 → I' x = I x ∧ D' x = D x) (e3 : I' 174 = I 174) (e4 : I' 175 = I 175) : ImgI I' D' K' n' N' := by
  intro k hk
  rcases h k hk with ⟨h1, h2⟩ | ⟨h1, r, k1, k2, k3⟩
  · exact Or.inl ⟨by rw [e3]; exact h1, by rw [(e (142 + 4 * k) (by omega) (by omega)).1]; exact h2⟩
  · exact Or.inr ⟨by rw [e3]; exact h1, r, k1.mono hN, k2.move k1.le8.1 k1.le8.2 (HF.self (e _ (by omega) (by omega)).1 (e _ (by omega) (by omega)).1 (e _ (by omega) (by omega)).1 (e _ (by omega) (by omega)).2) g, by rw [e4]; exact k3⟩
theorem RefI.keep (h : RefI D) (e : ∀ x, x = 1 ∨ x = 24 ∨ x = 25 ∨ x = 28 → D' x = D x) : RefI D' := by
  unfold RefI; rw [e 1 (by omega), e 24 (by omega), e 25 (by omega), e 28 (by omega)]; exact h
theorem DV.more (h : DV D K n) (g : DK I K n I' K' n') : DV D K' n' := fun a ha k q hk hq => (h a ha k q hk hq).more g
/-- what callers can come to see -/
def obs (x : Nat) : Prop := x = 3 ∨ (9 ≤ x ∧ x ≤ 11) ∨ (13 ≤ x ∧ x ≤ 14) ∨ (26 ≤ x ∧ x ≤ 27) ∨ (30 ≤ x ∧ x ≤ 149) ∨ (163 ≤ x ∧ x ≤ 166) ∨ (169 ≤ x ∧ x ≤ 170) ∨ (173 ≤ x ∧ x ≤ 176)
def Fr (I I' : Nat → Nat → Int32) : Prop := (∀ x, obs x → I' x = I x) ∧ (∀ j, 12 ≤ j → j ≤ 14 → I' 0 j = I 0 j) ∧ I' 2 2 = I 2 2 ∧ (∀ j, j = 9 ∨ j = 11 ∨ j = 18 ∨ j = 27 ∨ j = 31 → I' 162 j = I 162 j)
def FrD (D D' : Nat → Nat → Option Nat) : Prop := ∀ x, (x < 4 ∨ 10 ≤ x) → (x < 17 ∨ 21 ≤ x) → x < 150 → D' x = D x
theorem Fr.rfl' : Fr I I := ⟨fun _ _ => rfl, fun _ _ _ => rfl, rfl, fun _ _ => rfl⟩
theorem Fr.trans {J : Nat → Nat → Int32} (h : Fr I I') (g : Fr I' J) : Fr I J := ⟨fun x hx => (g.1 x hx).trans (h.1 x hx), fun j h1 h2 => (g.2.1 j h1 h2).trans (h.2.1 j h1 h2), g.2.2.1.trans h.2.2.1, fun j hj => (g.2.2.2 j hj).trans (h.2.2.2 j hj)⟩
theorem FrD.rfl' : FrD D D := fun _ _ _ _ => rfl
theorem FrD.trans {E : Nat → Nat → Option Nat} (h : FrD D D') (g : FrD D' E) : FrD D E := fun x a b c => (g x a b c).trans (h x a b c)
theorem Inv.frame (h : Inv I D K n N) (hN : N ≤ N') (f : Fr I I') (fd : FrD D D') (g : DK I K n I' K' n') (dv : DV D' K' n') (hs : I' 0 15 = I' 162 1) : Inv I' D' K' n' N' := by
  obtain ⟨h1, ⟨h2, h3, h4, h5, h6⟩, h7, h8, h9, h10, h11⟩ := h
  obtain ⟨f1, f2, f3, f4⟩ := f
  refine ⟨h1.keep (fun x hx => f1 x (by unfold obs; omega)), ⟨h2.keep f3 (f1 3 (by unfold obs; omega)) (f4 11 (by omega)) (f1 170 (by unfold obs; omega)), ?_, hs, h5.keep (by rw [f1 13 (by unfold obs; omega)]) (f1 14 (by unfold obs; omega)) (f4 27 (by omega)) (f1 173 (by unfold obs; omega)), h6.keep (by rw [f1 26 (by unfold obs; omega)]) (f1 27 (by unfold obs; omega)) (f4 31 (by omega)) (f1 176 (by unfold obs; omega))⟩, h7.keep hN g (fun x a b => f1 x (by unfold obs; omega)) (fd 12 (by omega) (by omega) (by omega)) (f1 166 (by unfold obs; omega)), h8.keep hN g (f2 12 (by omega) (by omega)) (f2 13 (by omega) (by omega)) (f4 9 (by omega)) (fun x a b => ⟨f1 x (by unfold obs; omega), fd x (by omega) (by omega) (by omega)⟩) (f1 169 (by unfold obs; omega)), h9.keep hN g (fun x a b => ⟨f1 x (by unfold obs; omega), fd x (by omega) (by omega) (by omega)⟩) (f1 174 (by unfold obs; omega)) (f1 175 (by unfold obs; omega)), h10.keep (fun x hx => fd x (by omega) (by omega) (by omega)), dv⟩
  rw [f2 14 (by omega) (by omega), f4 18 (by omega)]; exact h3
/-- class and reference answer alike, and what holds between calls holds again -/
def GD {α : Type} (Z : Nat → Cl) (N : Nat) (h : Hp) (F G : Hp → Option (α × Hp)) : Prop := ∃ r h1 I2 D2 K2 n2, F h = some (r, h1) ∧ G h1 = some (r, enc I2 D2 K2 n2 Z) ∧ Inv I2 D2 K2 n2 (N + 1)
/-- only a slot of the reference that nobody sees, or statuses -/
theorem Fr.m {J : Nat → Nat → Int32} (h : ∀ x, x ≠ 162 → J x = I x) (h2 : ∀ j, j = 9 ∨ j = 11 ∨ j = 18 ∨ j = 27 ∨ j = 31 → J 162 j = I 162 j) : Fr I J := ⟨fun x hx => h x (by unfold obs at hx; omega), fun j _ _ => by rw [h 0 (by decide)], by rw [h 2 (by decide)], h2⟩
theorem Inv.thrown (h : Inv I D K n N) : Inv (va_up I 162 (upd (I 162) 0 0)) D K n (N + 1) := by
  refine h.frame (by omega) (Fr.m (fun x hx => va_up_ne _ _ hx) (fun j hj => ?_)) FrD.rfl' (DK.of (fun q hq => va_up_ne _ _ (by omega))) h.2.2.2.2.2.2 ?_
  · rw [va_up_self, pk_un (by omega)]
  · rw [va_up_ne _ _ (by decide), va_up_self, pk_un (by decide)]; exact h.2.1.2.2.1
/-- statuses told anew -/
def stI (I : Nat → Nat → Int32) (f : Int32) : Nat → Nat → Int32 := va_up (va_up I 0 (upd (I 0) 15 f)) 162 (upd (upd (I 162) 0 0) 1 f)
theorem Inv.told (h : Inv I D K n N) (f : Int32) : Inv (stI I f) D K n (N + 1) := by
  refine h.frame (by omega) ⟨fun x hx => ?_, fun j h1 h2 => ?_, ?_, fun j hj => ?_⟩ FrD.rfl' (DK.of (fun q hq => ?_)) h.2.2.2.2.2.2 ?_
  · unfold obs at hx; unfold stI; rw [va_up_ne _ _ (by omega), va_up_ne _ _ (by omega)]
  · unfold stI; rw [va_up_ne _ _ (by decide), va_up_self, pk_un (by omega)]
  · unfold stI; rw [va_up_ne _ _ (by decide), va_up_ne _ _ (by decide)]
  · unfold stI; rw [va_up_self, pk_un (by omega), pk_un (by omega)]
  · unfold stI; rw [va_up_ne _ _ (by omega), va_up_ne _ _ (by omega)]
  · unfold stI; rw [va_up_ne _ _ (by decide), va_up_self, pk_us, va_up_self, pk_us]
theorem k_fault (h : Inv I D K n N) : GD Z N (enc I D K n Z) (fun h => f_X11_fault h 0) (fun h => f_X12_fault h 162) := by
  refine ⟨I 0 14, enc I D K n Z, _, D, K, n, ?_, ?_, h.thrown⟩
  · simp only [f_X11_fault, g0_14, bA_s]
  · simp only [f_X12_fault, p162_0, g162_18, bA_s, va_up_self, pk_un (show 18 ≠ 0 by decide), h.2.1.2.1]
theorem k_status (h : Inv I D K n N) : GD Z N (enc I D K n Z) (fun h => f_X11_status h 0) (fun h => f_X12_status h 162) := by
  refine ⟨I 0 15, enc I D K n Z, _, D, K, n, ?_, ?_, h.thrown⟩
  · simp only [f_X11_status, g0_15, bA_s]
  · simp only [f_X12_status, p162_0, g162_1, bA_s, va_up_self, pk_un (show 1 ≠ 0 by decide), h.2.1.2.2.1]
theorem k_ledger (h : Inv I D K n N) (x : Int32) : GD Z N (enc I D K n Z) (fun h => f_X11_ledger h 0 x) (fun h => f_X12_ledger h 162 x) := by
  obtain ⟨t, t1, t2, t3, t4⟩ := h.2.1.2.2.2.1
  refine ⟨if 0 ≤ x.toInt ∧ x.toInt < t then I 14 x.toNatClampNeg else -1000000, enc I D K n Z, _, D, K, n, ?_, ?_, h.thrown⟩
  · simp only [f_X11_ledger, r0_4, bA_s, c13, c_at (a := 13) (m := 17) (by simp [isNu]) t2 t1, b2_s]
  · simp only [f_X12_ledger, p162_0, g162_27, bA_s, va_up_self, pk_un (show 27 ≠ 0 by decide), t3, m_inN _ x t (by omega), b2_s, r162_26]
    by_cases hx : 0 ≤ x.toInt ∧ x.toInt < t
    · obtain ⟨k, hk, rfl⟩ := (ix_in (m := t) (by omega)).mp hx
      simp only [if_pos hx, if_neg (show ¬ (1 : Int32) = 0 by decide), ald_n s_173 k (show k < 20 by omega) (by decide), bA_s, va_up_ne I _ (show 173 ≠ 162 by decide), nI_clamp (show k < 2 ^ 31 by omega), t4 k hk]
    · simp only [if_neg hx, if_true, bA_s]
theorem k_trace (h : Inv I D K n N) (x : Int32) : GD Z N (enc I D K n Z) (fun h => f_X11_trace h 0 x) (fun h => f_X12_trace h 162 x) := by
  obtain ⟨t, t1, t2, t3, t4⟩ := h.2.1.2.2.2.2
  refine ⟨if 0 ≤ x.toInt ∧ x.toInt < t then I 27 x.toNatClampNeg else -1000000, enc I D K n Z, _, D, K, n, ?_, ?_, h.thrown⟩
  · simp only [f_X11_trace, r0_9, bA_s, c26, c_at (a := 26) (m := 16) (by simp [isNu]) t2 t1, b2_s]
  · simp only [f_X12_trace, p162_0, g162_31, bA_s, va_up_self, pk_un (show 31 ≠ 0 by decide), t3, m_inN _ x t (by omega), b2_s, r162_30]
    by_cases hx : 0 ≤ x.toInt ∧ x.toInt < t
    · obtain ⟨k, hk, rfl⟩ := (ix_in (m := t) (by omega)).mp hx
      simp only [if_pos hx, if_neg (show ¬ (1 : Int32) = 0 by decide), ald_n s_176 k (show k < 16 by omega) (by decide), bA_s, va_up_ne I _ (show 176 ≠ 162 by decide), nI_clamp (show k < 2 ^ 31 by omega), t4 k hk]
    · simp only [if_neg hx, if_true, bA_s]
theorem i32z : (0 : Int32).toInt = 0 := by decide
theorem m_inL (h : Hp) (x : Int32) (a b : Nat) (ha : a < 2 ^ 31) (hb : b < 2 ^ 31) : f_X12_in h x.toInt64 (nI a).toInt64 (nI b).toInt64 = some (if (a : Int) ≤ x.toInt ∧ x.toInt ≤ b then 1 else 0, h) := by
  rw [m_in32]
  have : (nI a ≤ x ∧ x ≤ nI b) ↔ ((a : Int) ≤ x.toInt ∧ x.toInt ≤ b) := by rw [fa_le, fa_le, toInt_nI ha, toInt_nI hb]
  simp only [this]
theorem c_lacksRow (h : Hp) (x : Int32) : f_X11_lacksRow h x = some (if 0 ≤ x.toInt ∧ x.toInt < 8 then 0 else 1, h) := by
  unfold f_X11_lacksRow
  by_cases h0 : x < 0
  · have := (fa_lt x 0).mp h0
    rw [i32z] at this
    rw [if_pos h0, if_neg (by omega)]; rfl
  · have h0' := fa_of_nlt h0
    rw [fa_le, i32z] at h0'
    rw [if_neg h0]
    by_cases h8 : x < 8
    · have := (fa_lt x 8).mp h8
      rw [show (8 : Int32).toInt = 8 by decide] at this
      rw [if_pos h8, if_pos (by omega)]; rfl
    · have h8' := fa_of_nlt h8
      rw [fa_le, show (8 : Int32).toInt = 8 by decide] at h8'
      rw [if_neg h8, if_neg (by omega)]; rfl
theorem m_isRow (h : Hp) (x : Int32) : f_X12_isRow h x = some (if 0 ≤ x.toInt ∧ x.toInt < 8 then 1 else 0, h) := by
  unfold f_X12_isRow
  have := m_inL h x 0 7 (by decide) (by decide)
  rw [show (nI 0).toInt64 = (0 : Int64) by decide, show (nI 7).toInt64 = (7 : Int64) by decide] at this
  rw [this, b2_s]
  by_cases hx : 0 ≤ x.toInt ∧ x.toInt < 8
  · rw [if_pos (by omega), if_pos hx]; rfl
  · rw [if_neg (by omega), if_neg hx]; rfl
end Inv
