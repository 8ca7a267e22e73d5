/-! THE REFERENCE READS A HOUSE: its tokens -/
theorem pu_11_12 {f : Nat → Int32} {x : Int32} : upd f 12 x 11 = f 11 := pk_un (by decide)
theorem pu_11_13 {f : Nat → Int32} {x : Int32} : upd f 13 x 11 = f 11 := pk_un (by decide)
theorem pu_11_14 {f : Nat → Int32} {x : Int32} : upd f 14 x 11 = f 11 := pk_un (by decide)
theorem pu_11_15 {f : Nat → Int32} {x : Int32} : upd f 15 x 11 = f 11 := pk_un (by decide)
theorem pu_11_16 {f : Nat → Int32} {x : Int32} : upd f 16 x 11 = f 11 := pk_un (by decide)
theorem pu_11_17 {f : Nat → Int32} {x : Int32} : upd f 17 x 11 = f 11 := pk_un (by decide)
theorem pu_12_13 {f : Nat → Int32} {x : Int32} : upd f 13 x 12 = f 12 := pk_un (by decide)
theorem pu_12_14 {f : Nat → Int32} {x : Int32} : upd f 14 x 12 = f 12 := pk_un (by decide)
theorem pu_12_15 {f : Nat → Int32} {x : Int32} : upd f 15 x 12 = f 12 := pk_un (by decide)
theorem pu_12_16 {f : Nat → Int32} {x : Int32} : upd f 16 x 12 = f 12 := pk_un (by decide)
theorem pu_12_17 {f : Nat → Int32} {x : Int32} : upd f 17 x 12 = f 12 := pk_un (by decide)
theorem pu_13_12 {f : Nat → Int32} {x : Int32} : upd f 12 x 13 = f 13 := pk_un (by decide)
theorem pu_13_14 {f : Nat → Int32} {x : Int32} : upd f 14 x 13 = f 13 := pk_un (by decide)
theorem pu_13_15 {f : Nat → Int32} {x : Int32} : upd f 15 x 13 = f 13 := pk_un (by decide)
theorem pu_13_16 {f : Nat → Int32} {x : Int32} : upd f 16 x 13 = f 13 := pk_un (by decide)
theorem pu_13_17 {f : Nat → Int32} {x : Int32} : upd f 17 x 13 = f 13 := pk_un (by decide)
theorem pu_14_12 {f : Nat → Int32} {x : Int32} : upd f 12 x 14 = f 14 := pk_un (by decide)
theorem pu_14_13 {f : Nat → Int32} {x : Int32} : upd f 13 x 14 = f 14 := pk_un (by decide)
theorem pu_14_15 {f : Nat → Int32} {x : Int32} : upd f 15 x 14 = f 14 := pk_un (by decide)
theorem pu_14_16 {f : Nat → Int32} {x : Int32} : upd f 16 x 14 = f 14 := pk_un (by decide)
theorem pu_14_17 {f : Nat → Int32} {x : Int32} : upd f 17 x 14 = f 14 := pk_un (by decide)
theorem pu_15_12 {f : Nat → Int32} {x : Int32} : upd f 12 x 15 = f 15 := pk_un (by decide)
theorem pu_15_13 {f : Nat → Int32} {x : Int32} : upd f 13 x 15 = f 15 := pk_un (by decide)
theorem pu_15_14 {f : Nat → Int32} {x : Int32} : upd f 14 x 15 = f 15 := pk_un (by decide)
theorem pu_15_16 {f : Nat → Int32} {x : Int32} : upd f 16 x 15 = f 15 := pk_un (by decide)
theorem pu_15_17 {f : Nat → Int32} {x : Int32} : upd f 17 x 15 = f 15 := pk_un (by decide)
theorem pu_16_12 {f : Nat → Int32} {x : Int32} : upd f 12 x 16 = f 16 := pk_un (by decide)
theorem pu_16_13 {f : Nat → Int32} {x : Int32} : upd f 13 x 16 = f 16 := pk_un (by decide)
theorem pu_16_14 {f : Nat → Int32} {x : Int32} : upd f 14 x 16 = f 16 := pk_un (by decide)
theorem pu_16_15 {f : Nat → Int32} {x : Int32} : upd f 15 x 16 = f 16 := pk_un (by decide)
theorem pu_16_17 {f : Nat → Int32} {x : Int32} : upd f 17 x 16 = f 16 := pk_un (by decide)
theorem pu_17_12 {f : Nat → Int32} {x : Int32} : upd f 12 x 17 = f 17 := pk_un (by decide)
theorem pu_17_13 {f : Nat → Int32} {x : Int32} : upd f 13 x 17 = f 17 := pk_un (by decide)
theorem pu_17_14 {f : Nat → Int32} {x : Int32} : upd f 14 x 17 = f 17 := pk_un (by decide)
theorem pu_17_15 {f : Nat → Int32} {x : Int32} : upd f 15 x 17 = f 17 := pk_un (by decide)
theorem pu_17_16 {f : Nat → Int32} {x : Int32} : upd f 16 x 17 = f 17 := pk_un (by decide)
theorem pu_18_12 {f : Nat → Int32} {x : Int32} : upd f 12 x 18 = f 18 := pk_un (by decide)
theorem pu_18_13 {f : Nat → Int32} {x : Int32} : upd f 13 x 18 = f 18 := pk_un (by decide)
theorem pu_18_14 {f : Nat → Int32} {x : Int32} : upd f 14 x 18 = f 18 := pk_un (by decide)
theorem pu_18_15 {f : Nat → Int32} {x : Int32} : upd f 15 x 18 = f 18 := pk_un (by decide)
theorem pu_18_16 {f : Nat → Int32} {x : Int32} : upd f 16 x 18 = f 18 := pk_un (by decide)
theorem pu_18_17 {f : Nat → Int32} {x : Int32} : upd f 17 x 18 = f 18 := pk_un (by decide)
def tkN (T : Nat → Nat) (t p : Nat) : Nat := if t ≤ p then 1 else if 97 ≤ T p ∧ T p ≤ 122 then 2 else if 48 ≤ T p ∧ T p ≤ 57 then (if figN T t p ≤ 2 then 3 else 0) else if T p = 44 ∨ T p = 59 then 4 else 0
def cuN (T : Nat → Nat) (t p : Nat) : Nat := if t ≤ p then p else if 48 ≤ T p ∧ T p ≤ 57 then p + figN T t p else p + 1
def Tk (T : Nat → Nat) (t : Nat) (R : Nat → Int32) (p : Nat) : Prop := R 13 = nI p ∧ R 12 = nI (cuN T t p) ∧ R 14 = nI (tkN T t p) ∧ (tkN T t p = 3 → R 15 = nI (nvN T t p)) ∧ (tkN T t p = 2 ∨ tkN T t p = 4 → R 15 = nI (T p))
def Ms (T : Nat → Nat) (t : Nat) (I : Nat → Nat → Int32) (s : PS) : Prop := I 162 11 = nI t ∧ (∀ j, j < t → I 170 j = nI (T j)) ∧ (s.1 ≤ t ∧ s.2 ≤ 3) ∧ I 162 16 = nI s.2 ∧ (s.2 = 0 → Tk T t (I 162) s.1) ∧ (¬ s.2 = 0 → I 162 17 = nI s.1)
theorem tkN_le (T : Nat → Nat) (t p : Nat) : tkN T t p ≤ 4 := by
  unfold tkN
  repeat' split
  all_goals omega
theorem figN_s {T : Nat → Nat} {t p : Nat} (hp : p < t) (hd : 48 ≤ T p ∧ T p ≤ 57) : figN T t p = fgN T (t - (p + 1)) (p + 1) + 1 := by
  unfold figN
  rw [show t - p = (t - (p + 1)) + 1 by omega, fgN, if_pos hd]
theorem figN_0 {T : Nat → Nat} {t p : Nat} (hd : ¬ (48 ≤ T p ∧ T p ≤ 57)) : figN T t p = 0 := by
  unfold figN
  cases t - p with
  | zero => rfl
  | succ c => rw [fgN, if_neg hd]
theorem figN_t {T : Nat → Nat} {t p : Nat} (hp : t ≤ p) : figN T t p = 0 := by
  unfold figN
  rw [show t - p = 0 by omega]; rfl
theorem in_n (h : Hp) {v a b : Nat} {A B : Int64} (hA : A = (nI a).toInt64) (hB : B = (nI b).toInt64) (hv : v < 2 ^ 31) (ha : a < 2 ^ 31) (hb : b < 2 ^ 31) : f_X12_in h (nI v).toInt64 A B = some (if a ≤ v ∧ v ≤ b then 1 else 0, h) := by
  subst hA
  subst hB
  rw [m_in32]
  simp only [z_le ha hv, z_le hv hb]
section ReadM
variable {T : Nat → Nat} {t : Nat} {D : Nat → Nat → Option Nat} {K : Nat → Nat} {n : Nat} {Z : Nat → Cl} {s : PS}
theorem m_tok_L (ht : TO T t) {p : Nat} : ∀ (c fuel q v : Nat) (I : Nat → Nat → Int32), q + c = t → c < fuel → p + 1 ≤ q → I 162 11 = nI t → (∀ j, j < t → I 170 j = nI (T j)) → I 162 12 = nI q → I 162 13 = nI p → I 162 15 = nI v → ∃ I', (∀ (β : Type) (kk : Hp → Option β), f_X12_nextToken_L165 kk 162 fuel (enc I D K n Z) = kk (enc I' D K n Z)) ∧ I' 162 12 = nI (q + fgN T c q) ∧ (fgN T c q = 0 → I' 162 15 = nI v) ∧ (q = p + 1 → fgN T c q = 1 → I' 162 15 = nI (10 * v + (T q - 48))) ∧ (∀ x, x ≠ 162 → I' x = I x) ∧ (∀ j, j ≠ 12 → j ≠ 15 → I' 162 j = I 162 j) := by
  have t1 := ht.1
  intro c
  induction c with
  | zero =>
    intro fuel q v I hq hf hp h11 h170 h12 h13 h15
    obtain ⟨f, rfl⟩ : ∃ f, fuel = f + 1 := ⟨fuel - 1, by omega⟩
    refine ⟨I, fun β kk => ?_, h12, fun _ => h15, fun _ e => absurd e (by show ¬ 0 = 1; decide), fun _ _ => rfl, fun _ _ _ => rfl⟩
    rw [f_X12_nextToken_L165, g162_12, bA_s, g162_11, bA_s, h12, h11, if_pos (nI_le (show t ≤ q by omega) (by omega))]
  | succ c ih =>
    intro fuel q v I hq hf hp h11 h170 h12 h13 h15
    obtain ⟨f, rfl⟩ : ∃ f, fuel = f + 1 := ⟨fuel - 1, by omega⟩
    have hT := ht.2 q (by omega)
    have nq : ¬ nI t ≤ nI q := nI_ge (show q < t by omega) (by omega)
    have l : ald (enc I D K n Z) 170 0 (nI q) = some (nI (T q)) := by rw [l170 q (by omega), h170 q (by omega)]
    have hin := in_n (enc I D K n Z) (v := T q) (a := 48) (b := 57) (A := (48 : Int64)) (B := (57 : Int64)) (by decide) (by decide) (by omega) (by decide) (by decide)
    by_cases dg : 48 ≤ T q ∧ T q ≤ 57
    · have e2 : ((2 : Int32) ≤ nI q - nI p) = (2 ≤ q - p) := by rw [pk_sub (show p ≤ q by omega)]; exact z_le (k := 2) (by decide) (by omega)
      obtain ⟨w, hw⟩ : ∃ w, w = if 2 ≤ q - p then v else 10 * v + (T q - 48) := ⟨_, rfl⟩
      obtain ⟨J, eJ⟩ : ∃ J, va_up I 162 (upd (upd (I 162) 15 (nI w)) 12 (nI (q + 1))) = J := ⟨_, rfl⟩
      have fJ : ∀ x, x ≠ 162 → J x = I x := fun x hx => by rw [← eJ, va_up_ne _ _ hx]
      have gJ : ∀ j, j ≠ 12 → j ≠ 15 → J 162 j = I 162 j := fun j h1 h2 => by rw [← eJ, va_up_self, pk_un h1, pk_un h2]
      have un : ∀ (β : Type) (kk : Hp → Option β), f_X12_nextToken_L165 kk 162 (f + 1) (enc I D K n Z) = f_X12_nextToken_L165 kk 162 f (enc J D K n Z) := by
        intro β kk
        rw [f_X12_nextToken_L165]
        by_cases cc : 2 ≤ q - p
        · rw [if_pos cc] at hw
          subst hw
          simp only [g162_12, g162_11, bA_s, h12, h11, if_neg nq, r162_10, l, hin, b2_s, if_pos dg, if_neg one0, g162_13, h13, e2, if_pos cc, g162_15, h15, p162_15, va_up_self, pu_12_15, p162_12, bx_uu, z_i2, eJ]
        · rw [if_neg cc] at hw
          have ev : (10 : Int32) * nI v + nI (T q) - (48 : Int32) = nI w := by
            rw [show (10 : Int32) * nI v = nI (10 * v) from pk_mul 10 v, nI_add, show nI (10 * v + T q) - (48 : Int32) = nI (10 * v + T q - 48) from pk_sub (b := 48) (by omega), hw, show 10 * v + T q - 48 = 10 * v + (T q - 48) by omega]
          simp only [g162_12, g162_11, bA_s, h12, h11, if_neg nq, r162_10, l, hin, b2_s, if_pos dg, if_neg one0, g162_13, h13, e2, if_neg cc, g162_15, h15, ev, p162_15, va_up_self, pu_12_15, p162_12, bx_uu, z_i2, eJ]
      obtain ⟨I2, m1, m2, m3, m4, m5, m6⟩ := ih f (q + 1) w J (by omega) (by omega) (by omega) (by rw [gJ 11 (by decide) (by decide)]; exact h11) (fun j hj => by rw [fJ 170 (by decide)]; exact h170 j hj) (by rw [← eJ, va_up_self, pk_us]) (by rw [gJ 13 (by decide) (by decide)]; exact h13) (by rw [← eJ, va_up_self, pu_15_12, pk_us])
      have ef : fgN T (c + 1) q = fgN T c (q + 1) + 1 := by rw [fgN, if_pos dg]
      rw [ef]
      refine ⟨I2, fun β kk => ?_, ?_, fun e => absurd e (by omega), fun e1 e2 => ?_, fun x hx => by rw [m5 x hx, fJ x hx], fun j h1 h2 => by rw [m6 j h1 h2, gJ j h1 h2]⟩
      · rw [un]; exact m1 β kk
      · rw [m2, show q + 1 + fgN T c (q + 1) = q + (fgN T c (q + 1) + 1) by omega]
      · rw [m3 (by omega), hw, if_neg (by omega)]
    · have ef : fgN T (c + 1) q = 0 := by rw [fgN, if_neg dg]
      rw [ef]
      refine ⟨I, fun β kk => ?_, h12, fun _ => h15, fun _ e => absurd e (by decide), fun _ _ => rfl, fun _ _ _ => rfl⟩
      rw [f_X12_nextToken_L165]
      simp only [g162_12, g162_11, bA_s, h12, h11, if_neg nq, r162_10, l, hin, b2_s, if_neg dg, if_true]
theorem m_next (ht : TO T t) {I : Nat → Nat → Int32} (h11 : I 162 11 = nI t) (h170 : ∀ j, j < t → I 170 j = nI (T j)) {p : Nat} (hp : p ≤ t) (h12 : I 162 12 = nI p) : ∃ I', f_X12_nextToken (enc I D K n Z) 162 = some (enc I' D K n Z) ∧ Tk T t (I' 162) p ∧ (∀ x, x ≠ 162 → I' x = I x) ∧ (∀ j, (j < 12 ∨ 15 < j) → I' 162 j = I 162 j) := by
  have t1 := ht.1
  by_cases e : t ≤ p
  · have ep : p = t := by omega
    subst ep
    have e1 : tkN T p p = 1 := by rw [tkN, if_pos (Nat.le_refl _)]
    have e2 : cuN T p p = p := by rw [cuN, if_pos (Nat.le_refl _)]
    refine ⟨va_up I 162 (upd (upd (upd (upd (I 162) 13 (nI p)) 15 (-1000000)) 14 1) 12 (nI p)), ?_, ⟨?_, ?_, ?_, ?_, ?_⟩, fun x hx => va_up_ne _ _ hx, fun j hj => ?_⟩
    · simp only [f_X12_nextToken, g162_12, g162_11, g162_14, bA_s, b2_s, h12, h11, p162_13, p162_15, p162_14, p162_12, va_up_self, bx_uu, pk_us, pu_11_12, pu_11_13, pu_11_14, pu_11_15, pu_12_13, pu_12_14, pu_12_15, pu_13_12, pu_13_14, pu_13_15, pu_14_12, pu_14_13, pu_14_15, pu_15_12, pu_15_13, pu_15_14, if_pos (nI_le (Nat.le_refl p) (show p < 2 ^ 31 by omega)), if_true, if_neg (show ¬ (1 : Int32) = 3 by decide), show nI p + (0 : Int32) = nI p from nI_add p 0]
    · rw [va_up_self, pu_13_12, pu_13_14, pu_13_15, pk_us]
    · rw [va_up_self, pk_us, e2]
    · rw [va_up_self, pu_14_12, pk_us, e1]; rfl
    · rw [e1]; intro q; exact absurd q (by decide)
    · rw [e1]; intro q; exact absurd q (by decide)
    · rw [va_up_self, pk_un (by omega), pk_un (by omega), pk_un (by omega), pk_un (by omega)]
  · have hl : p < t := by omega
    have hT := ht.2 p hl
    have np : ¬ nI t ≤ nI p := nI_ge hl (by omega)
    have ne : ¬ nI p = nI t := fun q => by
      have := (nI_eq (show p < 2 ^ 31 by omega) (show t < 2 ^ 31 by omega)).mp q
      omega
    have l : ∀ R, ald (enc (va_up I 162 R) D K n Z) 170 0 (nI p) = some (nI (T p)) := fun R => by rw [l170 p (by omega), va_up_ne _ _ (by decide), h170 p hl]
    have ha := fun h => in_n h (v := T p) (a := 97) (b := 122) (A := (97 : Int64)) (B := (122 : Int64)) (by decide) (by decide) (by omega) (by decide) (by decide)
    have hd := fun h => in_n h (v := T p) (a := 48) (b := 57) (A := (48 : Int64)) (B := (57 : Int64)) (by decide) (by decide) (by omega) (by decide) (by decide)
    have e44 : (nI (T p) = (44 : Int32)) = (T p = 44) := z_eq (m := 44) (by omega) (by decide)
    have e59 : (nI (T p) = (59 : Int32)) = (T p = 59) := z_eq (m := 59) (by omega) (by decide)
    by_cases dg : 48 ≤ T p ∧ T p ≤ 57
    · have na : ¬ (97 ≤ T p ∧ T p ≤ 122) := by omega
      have ev : nI (T p) - (48 : Int32) = nI (T p - 48) := pk_sub (b := 48) (by omega)
      obtain ⟨J, eJ⟩ : ∃ J, va_up I 162 (upd (upd (upd (upd (upd (I 162) 13 (nI p)) 15 (nI (T p))) 14 3) 12 (nI (p + 1))) 15 (nI (T p - 48))) = J := ⟨_, rfl⟩
      have fJ : ∀ x, x ≠ 162 → J x = I x := fun x hx => by rw [← eJ, va_up_ne _ _ hx]
      obtain ⟨I2, m1, m2, m3, m4, m5, m6⟩ := m_tok_L (D := D) (K := K) (n := n) (Z := Z) ht (p := p) (t - (p + 1)) 2000 (p + 1) (T p - 48) J (by omega) (by omega) (Nat.le_refl _) (by rw [← eJ, va_up_self, pu_11_15, pu_11_12, pu_11_14, pu_11_15, pu_11_13]; exact h11) (fun j hj => by rw [fJ 170 (by decide)]; exact h170 j hj) (by rw [← eJ, va_up_self, pu_12_15, pk_us]) (by rw [← eJ, va_up_self, pu_13_15, pu_13_12, pu_13_14, pu_13_15, pk_us]) (by rw [← eJ, va_up_self, pk_us])
      have ef := figN_s hl dg
      have hfl := figN_le (T := T) hp
      have i13 : I2 162 13 = nI p := by rw [m6 13 (by decide) (by decide), ← eJ, va_up_self, pu_13_15, pu_13_12, pu_13_14, pu_13_15, pk_us]
      have i12 : I2 162 12 = nI (p + figN T t p) := by rw [m2, ef, show p + 1 + fgN T (t - (p + 1)) (p + 1) = p + (fgN T (t - (p + 1)) (p + 1) + 1) by omega]
      have es : nI (p + figN T t p) - nI p = nI (figN T t p) := by rw [pk_sub (by omega), Nat.add_sub_cancel_left]
      have e2 : (nI (figN T t p) ≤ (2 : Int32)) = (figN T t p ≤ 2) := z_le (m := 2) (by omega) (by decide)
      have ec : cuN T t p = p + figN T t p := by rw [cuN, if_neg e, if_pos dg]
      have et : tkN T t p = if figN T t p ≤ 2 then 3 else 0 := by rw [tkN, if_neg e, if_neg na, if_pos dg]
      refine ⟨va_up I2 162 (upd (I2 162) 14 (nI (tkN T t p))), ?_, ⟨?_, ?_, ?_, ?_, ?_⟩, fun x hx => by rw [va_up_ne _ _ hx, m5 x hx, fJ x hx], fun j hj => ?_⟩
      · simp only [f_X12_nextToken, g162_12, g162_11, g162_14, g162_15, r162_10, bA_s, b2_s, h12, h11, p162_13, p162_15, p162_14, p162_12, va_up_self, bx_uu, pk_us, pu_11_12, pu_11_13, pu_11_14, pu_11_15, pu_12_13, pu_12_14, pu_12_15, pu_13_12, pu_13_14, pu_13_15, pu_14_12, pu_14_13, pu_14_15, pu_15_12, pu_15_13, pu_15_14, if_neg np, l, if_neg ne, ha, if_neg na, hd, if_pos dg, if_true, if_neg one0, z_i2, ev, eJ, m1, i12, g162_13, i13, es, e2]
        rw [et]
        by_cases c : figN T t p ≤ 2
        · rw [if_pos c, if_pos c]; rfl
        · rw [if_neg c, if_neg c]; rfl
      · rw [va_up_self, pu_13_14]; exact i13
      · rw [va_up_self, pu_12_14, i12, ec]
      · rw [va_up_self, pk_us]
      · intro q
        rw [va_up_self, pu_15_14]
        have c : figN T t p ≤ 2 := by
          rw [et] at q
          exact Classical.byContradiction fun z => by rw [if_neg z] at q; exact absurd q (by decide)
        by_cases f0 : fgN T (t - (p + 1)) (p + 1) = 0
        · rw [m3 f0, nvN, if_pos (by omega)]
        · rw [m4 rfl (by omega), nvN, if_neg (by omega)]
      · intro q
        exfalso
        rw [et] at q
        by_cases c : figN T t p ≤ 2
        · rw [if_pos c] at q; omega
        · rw [if_neg c] at q; omega
      · rw [va_up_self, pk_un (by omega), m6 j (by omega) (by omega), ← eJ, va_up_self, pk_un (by omega), pk_un (by omega), pk_un (by omega), pk_un (by omega), pk_un (by omega)]
    · have ec : cuN T t p = p + 1 := by rw [cuN, if_neg e, if_neg dg]
      have main : ∀ (k : Nat), tkN T t p = k → k ≠ 3 → f_X12_nextToken (enc I D K n Z) 162 = some (enc (va_up I 162 (upd (upd (upd (upd (I 162) 13 (nI p)) 15 (nI (T p))) 14 (nI k)) 12 (nI (p + 1)))) D K n Z) → ∃ I', f_X12_nextToken (enc I D K n Z) 162 = some (enc I' D K n Z) ∧ Tk T t (I' 162) p ∧ (∀ x, x ≠ 162 → I' x = I x) ∧ (∀ j, (j < 12 ∨ 15 < j) → I' 162 j = I 162 j) := by
        intro k hk k3 hr
        refine ⟨_, hr, ⟨?_, ?_, ?_, ?_, ?_⟩, fun x hx => va_up_ne _ _ hx, fun j hj => ?_⟩
        · rw [va_up_self, pu_13_12, pu_13_14, pu_13_15, pk_us]
        · rw [va_up_self, pk_us, ec]
        · rw [va_up_self, pu_14_12, pk_us, hk]
        · intro q; exact absurd (hk.symm.trans q) k3
        · intro q; rw [va_up_self, pu_15_12, pu_15_14, pk_us]
        · rw [va_up_self, pk_un (by omega), pk_un (by omega), pk_un (by omega), pk_un (by omega)]
      by_cases al : 97 ≤ T p ∧ T p ≤ 122
      · refine main 2 (by rw [tkN, if_neg e, if_pos al]) (by decide) ?_
        simp only [f_X12_nextToken, g162_12, g162_11, g162_14, g162_15, r162_10, bA_s, b2_s, h12, h11, p162_13, p162_15, p162_14, p162_12, va_up_self, bx_uu, pk_us, pu_11_12, pu_11_13, pu_11_14, pu_11_15, pu_12_13, pu_12_14, pu_12_15, pu_13_12, pu_13_14, pu_13_15, pu_14_12, pu_14_13, pu_14_15, pu_15_12, pu_15_13, pu_15_14, if_neg np, l, if_neg ne, ha, if_pos al, if_neg one0, z_i2, if_neg (show ¬ (2 : Int32) = 3 by decide)]
        rfl
      · by_cases s44 : T p = 44
        · refine main 4 (by rw [tkN, if_neg e, if_neg al, if_neg dg, if_pos (Or.inl s44)]) (by decide) ?_
          simp only [f_X12_nextToken, g162_12, g162_11, g162_14, g162_15, r162_10, bA_s, b2_s, h12, h11, p162_13, p162_15, p162_14, p162_12, va_up_self, bx_uu, pk_us, pu_11_12, pu_11_13, pu_11_14, pu_11_15, pu_12_13, pu_12_14, pu_12_15, pu_13_12, pu_13_14, pu_13_15, pu_14_12, pu_14_13, pu_14_15, pu_15_12, pu_15_13, pu_15_14, if_neg np, l, if_neg ne, ha, if_neg al, hd, if_neg dg, if_true, e44, if_pos s44, z_i2, if_neg (show ¬ (4 : Int32) = 3 by decide)]
          rfl
        · by_cases s59 : T p = 59
          · refine main 4 (by rw [tkN, if_neg e, if_neg al, if_neg dg, if_pos (Or.inr s59)]) (by decide) ?_
            simp only [f_X12_nextToken, g162_12, g162_11, g162_14, g162_15, r162_10, bA_s, b2_s, h12, h11, p162_13, p162_15, p162_14, p162_12, va_up_self, bx_uu, pk_us, pu_11_12, pu_11_13, pu_11_14, pu_11_15, pu_12_13, pu_12_14, pu_12_15, pu_13_12, pu_13_14, pu_13_15, pu_14_12, pu_14_13, pu_14_15, pu_15_12, pu_15_13, pu_15_14, if_neg np, l, if_neg ne, ha, if_neg al, hd, if_neg dg, if_true, e44, if_neg s44, e59, if_pos s59, z_i2, if_neg (show ¬ (4 : Int32) = 3 by decide)]
            rfl
          · refine main 0 (by rw [tkN, if_neg e, if_neg al, if_neg dg, if_neg (fun q => q.elim s44 s59)]) (by decide) ?_
            simp only [f_X12_nextToken, g162_12, g162_11, g162_14, g162_15, r162_10, bA_s, b2_s, h12, h11, p162_13, p162_15, p162_14, p162_12, va_up_self, bx_uu, pk_us, pu_11_12, pu_11_13, pu_11_14, pu_11_15, pu_12_13, pu_12_14, pu_12_15, pu_13_12, pu_13_14, pu_13_15, pu_14_12, pu_14_13, pu_14_15, pu_15_12, pu_15_13, pu_15_14, if_neg np, l, if_neg ne, ha, if_neg al, hd, if_neg dg, if_true, e44, if_neg s44, e59, if_neg s59, z_i2, if_neg (show ¬ (0 : Int32) = 3 by decide)]
            rfl
end ReadM
