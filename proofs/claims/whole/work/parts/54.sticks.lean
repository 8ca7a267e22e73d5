/-! THE CALL sticks -/
def st_mul (q : Int64) : Nat → Int64 → Int64
  | 0, a => a
  | t + 1, a => st_mul q t (a * q)
def st_gcd : Nat → Int64 → Int64 → Option (Int64 × Int64)
  | 0, _, _ => none
  | f + 1, x, y => if lg_cmp y (0 : Int64) = 0 then some (x, y) else if y = 0 then none else st_gcd f y (x - x / y * y)
def cd_f : Nat → Int32 → Int32 → Int32 → Option Int32
  | 0, _, _, _ => none
  | f + 1, x2, x3, x4 => if (64 : Int32) ≤ x4 then some x2 else if x3 = 0 then some x2 else cd_f f x3 (x2 - x2 / x3 * x3) (x4 + (1 : Int32))
/-- what comes of p, of t doors, of what is asked, of coming well (g) -/
def st_ok (p t w : Nat) (g : Int64) : Bool := match cd_f 20 (10 : Int32) ((10 : Int32) - nI p) (0 : Int32), st_gcd 60 (st_mul ((10 : Int64) - (nI p).toInt64) t g) (st_mul (10 : Int64) t 1) with
  | some c, some (u, _) => decide (¬ c = 0) && (decide (¬ u = 0) && decide ((if nI w = 0 then st_mul ((10 : Int64) - (nI p).toInt64) t g else st_mul (10 : Int64) t 1) / u = if g = 0 then (nI w).toInt64 else st_mul (if nI w = 0 then ((10 : Int32) - nI p) / c else (10 : Int32) / c).toInt64 t 1))
  | _, _ => false
set_option maxRecDepth 100000 in
theorem st_all : ∀ p, p < 11 → ∀ t, t < 9 → ∀ w, w < 2 → st_ok p t w 0 = true ∧ st_ok p t w 1 = true := by decide +kernel
theorem st_use {p t w : Nat} {g : Int64} (h : st_ok p t w g = true) : ∃ c u v, cd_f 20 (10 : Int32) ((10 : Int32) - nI p) (0 : Int32) = some c ∧ st_gcd 60 (st_mul ((10 : Int64) - (nI p).toInt64) t g) (st_mul (10 : Int64) t 1) = some (u, v) ∧ ¬ c = 0 ∧ ¬ u = 0 ∧ (if nI w = 0 then st_mul ((10 : Int64) - (nI p).toInt64) t g else st_mul (10 : Int64) t 1) / u = if g = 0 then (nI w).toInt64 else st_mul (if nI w = 0 then ((10 : Int32) - nI p) / c else (10 : Int32) / c).toInt64 t 1 := by
  unfold st_ok at h
  split at h
  · next c u v e1 e2 =>
    simp only [Bool.and_eq_true, decide_eq_true_eq] at h
    exact ⟨c, u, v, e1, e2, h.1, h.2.1, h.2.2⟩
  · cases h
theorem c_cd (x0 x1 : Int32) (h : Hp) : ∀ (f e : Nat) (x2 x3 x4 u : Int32), cd_f f x2 x3 x4 = some u → f_X11_commonDivisor_L7 (fun y6 y7 y8 h5 => some (y6, h5)) x0 x1 (f + e) h x2 x3 x4 = some (u, h) := by
  intro f
  induction f with
  | zero => intro e x2 x3 x4 u q; cases q
  | succ f ih =>
    intro e x2 x3 x4 u q
    rw [show f + 1 + e = (f + e) + 1 by omega, f_X11_commonDivisor_L7]
    rw [cd_f] at q
    by_cases a : (64 : Int32) ≤ x4
    · rw [if_pos a] at q ⊢; cases q; rfl
    · rw [if_neg a] at q ⊢
      by_cases b : x3 = 0
      · rw [if_pos b] at q ⊢; cases q; rfl
      · rw [if_neg b] at q ⊢
        simp only [nzI, if_neg b, bA_s]
        exact ih e _ _ _ u q
theorem c_commonDivisor {x u : Int32} (h : Hp) (q : cd_f 20 (10 : Int32) x (0 : Int32) = some u) : f_X11_commonDivisor h x (10 : Int32) = some (u, h) := by
  unfold f_X11_commonDivisor
  exact c_cd x 10 h 20 1980 _ _ _ u q
theorem c_pow (x : Int32) (h : Hp) {t : Nat} (ht : t ≤ 8) : ∀ (m fuel j : Nat) (a : Int64), j + m = t → m < fuel → f_X11_power_L5 (fun y3 y4 h2 => some (y3, h2)) x (nI t) fuel h a (nI j) = some (st_mul x.toInt64 m a, h) := by
  intro m
  induction m with
  | zero =>
    intro fuel j a hj hf
    obtain ⟨f, rfl⟩ : ∃ f, fuel = f + 1 := ⟨fuel - 1, by omega⟩
    rw [f_X11_power_L5, if_pos (nI_le (by omega) (by omega))]
    rfl
  | succ m ih =>
    intro fuel j a hj hf
    obtain ⟨f, rfl⟩ : ∃ f, fuel = f + 1 := ⟨fuel - 1, by omega⟩
    rw [f_X11_power_L5, if_neg (nI_ge (by omega) (by omega)), z_i2]
    exact ih f (j + 1) _ (by omega) (by omega)
theorem c_power (x : Int32) (h : Hp) {t : Nat} (ht : t ≤ 8) : f_X11_power h x (nI t) = some (st_mul x.toInt64 t 1, h) := by
  unfold f_X11_power
  have := c_pow x h ht t 2000 0 1 (by omega) (by omega)
  rw [show nI 0 = (0 : Int32) by decide] at this
  exact this
theorem wGo_w {r : Ro} {N : Nat} (h : wf r N) (hN : N ≤ 2000) (xs : List Int32) : (wGo r xs).2.2 ≤ 20 ∧ ((wGo r xs).2.1 = 0 ↔ (wGo r xs).2.2 ≠ 0) := by
  have h1 := WOK_wRun xs (start r) (WOK_start h hN)
  unfold wGo
  generalize wRun xs (start r) = p at h1
  have h8 : p.1.2.1 < 8 := by have a := h1.2.1; have b := h1.1.1.2; omega
  have h6 := h1.1.2.2.2.2.2.1 p.1.2.1 h8
  unfold wTake
  by_cases e : p.2 = 0
  · rw [if_pos e]
    by_cases e2 : p.1.1 (6 + p.1.2.1) = 0
    · rw [if_pos e2]
      exact ⟨Nat.zero_le _, fun q => absurd (show 11 = 0 from q) (by decide), fun q => absurd rfl q⟩
    · rw [if_neg e2]
      exact ⟨h6, fun _ => e2, fun _ => rfl⟩
  · rw [if_neg e]
    exact ⟨Nat.zero_le _, fun q => absurd q e, fun q => absurd rfl q⟩
section Sticks
variable {I : Nat → Nat → Int32} {D : Nat → Nat → Option Nat} {K : Nat → Nat} {n N : Nat} {Z : Nat → Cl} {r : Ro}
theorem m_st_mul {β : Type} (kk : Int64 → Int64 → Int32 → Hp → Option β) (x1 x2 x3 x4 x5 x6 x7 : Int32) {t : Nat} (ht : t ≤ 8) (h0 : I 162 21 = nI t) : ∀ (m fuel j : Nat) (a b : Int64), j + m = t → m < fuel → f_X12_sticks_L103 kk 162 x1 x2 x3 x4 x5 x6 x7 fuel (enc I D K n Z) a b (nI j) = kk (st_mul ((10 : Int64) - x4.toInt64) m a) (st_mul (10 : Int64) m b) (nI t) (enc I D K n Z) := by
  intro m
  induction m with
  | zero =>
    intro fuel j a b hj hf
    obtain ⟨f, rfl⟩ : ∃ f, fuel = f + 1 := ⟨fuel - 1, by omega⟩
    have e : j = t := by omega
    rw [f_X12_sticks_L103, g162_21, bA_s, h0, e, if_pos (nI_le (Nat.le_refl _) (by omega))]
    rfl
  | succ m ih =>
    intro fuel j a b hj hf
    obtain ⟨f, rfl⟩ : ∃ f, fuel = f + 1 := ⟨fuel - 1, by omega⟩
    rw [f_X12_sticks_L103, g162_21, bA_s, h0, if_neg (nI_ge (by omega) (by omega)), z_i2]
    exact ih f (j + 1) _ _ (by omega) (by omega)
theorem m_st_gcd {β : Type} (kk : Int64 → Int64 → Hp → Option β) (x1 x2 x3 x4 x5 x6 x7 : Int32) (x8 x10 : Int64) (h : Hp) : ∀ (f e : Nat) (x y u v : Int64), st_gcd f x y = some (u, v) → f_X12_sticks_L146 kk 162 x1 x2 x3 x4 x5 x6 x7 x8 x10 (f + e) h x y = kk u v h := by
  intro f
  induction f with
  | zero => intro e x y u v q; cases q
  | succ f ih =>
    intro e x y u v q
    rw [show f + 1 + e = (f + e) + 1 by omega, f_X12_sticks_L146]
    rw [st_gcd] at q
    by_cases a : lg_cmp y (0 : Int64) = 0
    · rw [if_pos a] at q ⊢; cases q; rfl
    · rw [if_neg a] at q ⊢
      by_cases b : y = 0
      · rw [if_pos b] at q; cases q
      · rw [if_neg b] at q
        simp only [nzL, if_neg b, bA_s]
        exact ih e _ _ u v q
theorem notUb {x : Int32} {b : Nat} (hb : b < 2 ^ 31) (h : ¬ ((0 : Int) ≤ x.toInt ∧ x.toInt ≤ b)) {α : Type} (a c : α) : (if x < 0 then a else if nI b < x then a else c) = a := by
  by_cases h0 : x < 0
  · rw [if_pos h0]
  · have h0' := fa_of_nlt h0
    rw [fa_le, i32z] at h0'
    have h2 : nI b < x := by rw [fa_lt, toInt_nI hb]; omega
    rw [if_neg h0, if_pos h2]
theorem yesUb {x : Int32} {b : Nat} (hb : b < 2 ^ 31) (h : (0 : Int) ≤ x.toInt ∧ x.toInt ≤ b) : ¬ x < 0 ∧ ¬ nI b < x := by
  refine ⟨?_, ?_⟩
  · rw [fa_lt, i32z]; omega
  · rw [fa_lt, toInt_nI hb]; omega
set_option maxRecDepth 100000 in
set_option maxHeartbeats 8000000 in
theorem k_sticks_s (h : Inv I D K n N) (hc : CH I D K n 9 r) (hM : MH (I 166) r) (r18 : r 1 ≤ 8) (hz : r 1 = 0) (x y z p w : Int32) : GD Z N (enc I D K n Z) (fun h => f_X11_sticks h 0 x y z p w) (fun h => f_X12_sticks h 162 x y z p w) := by
  have hM' := thr_M (show 166 ≠ 162 by decide) hM
  refine ⟨-1000002, enc I D K n Z, _, D, K, n, ?_, ?_, h.thr⟩
  · simp only [f_X11_sticks, r0_3, bA_s, c9, c_stands9 h9 hc.1.1 r18, b2_s, if_pos hz, if_true]
  · simp only [f_X12_sticks, p_thr, bA_s, c162, m_isThere hM' r18, b2_s, if_pos hz, if_true]
set_option maxRecDepth 100000 in
set_option maxHeartbeats 8000000 in
theorem k_sticks_b (h : Inv I D K n N) (hc : CH I D K n 9 r) (hM : MH (I 166) r) (r18 : r 1 ≤ 8) (hz : ¬ r 1 = 0) (x y z p w : Int32) (hb : ¬ (((0 ≤ x.toInt ∧ x.toInt < 8) ∧ (0 ≤ z.toInt ∧ z.toInt ≤ 8)) ∧ ((0 : Int) ≤ p.toInt ∧ p.toInt ≤ (10 : Nat)) ∧ ((0 : Int) ≤ w.toInt ∧ w.toInt ≤ (1 : Nat)))) : GD Z N (enc I D K n Z) (fun h => f_X11_sticks h 0 x y z p w) (fun h => f_X12_sticks h 162 x y z p w) := by
  have hM' := thr_M (show 166 ≠ 162 by decide) hM
  have hin : ∀ h : Hp, f_X12_in h p.toInt64 (0 : Int64) (10 : Int64) = some (if (0 : Int) ≤ p.toInt ∧ p.toInt ≤ (10 : Nat) then 1 else 0, h) := fun h => in02 h p 10 (by decide) (by decide)
  have hin1 : ∀ h : Hp, f_X12_in h w.toInt64 (0 : Int64) (1 : Int64) = some (if (0 : Int) ≤ w.toInt ∧ w.toInt ≤ (1 : Nat) then 1 else 0, h) := fun h => in02 h w 1 (by decide) (by decide)
  refine ⟨-1000001, enc I D K n Z, _, D, K, n, ?_, ?_, h.thr⟩
  · by_cases hb1 : (0 ≤ x.toInt ∧ x.toInt < 8) ∧ (0 ≤ z.toInt ∧ z.toInt ≤ 8)
    · by_cases hp : (0 : Int) ≤ p.toInt ∧ p.toInt ≤ (10 : Nat)
      · obtain ⟨p0, p1⟩ := yesUb (show 10 < 2 ^ 31 by decide) hp
        have hw : ¬ ((0 : Int) ≤ w.toInt ∧ w.toInt ≤ (1 : Nat)) := fun q => hb ⟨hb1, hp, q⟩
        have p1 : ¬ (10 : Int32) < p := p1
        have e : ∀ (a c : Option (Int64 × Hp)), (if w < 0 then a else if w ≤ (1 : Int32) then c else a) = a := not0b (show 1 < 2 ^ 31 by decide) hw
        simp only [f_X11_sticks, r0_3, bA_s, c9, c_stands9 h9 hc.1.1 r18, b2_s, if_neg hz, if_neg one0, c_bad, if_pos hb1, if_true, if_neg p0, if_neg p1, e]
      · have e : ∀ (a c : Option (Int64 × Hp)), (if p < 0 then a else if (10 : Int32) < p then a else c) = a := notUb (show 10 < 2 ^ 31 by decide) hp
        simp only [f_X11_sticks, r0_3, bA_s, c9, c_stands9 h9 hc.1.1 r18, b2_s, if_neg hz, if_neg one0, c_bad, if_pos hb1, if_true, e]
    · simp only [f_X11_sticks, r0_3, bA_s, c9, c_stands9 h9 hc.1.1 r18, b2_s, if_neg hz, if_neg one0, c_bad, if_neg hb1]
  · by_cases hb1 : (0 ≤ x.toInt ∧ x.toInt < 8) ∧ (0 ≤ z.toInt ∧ z.toInt ≤ 8)
    · by_cases hp : (0 : Int) ≤ p.toInt ∧ p.toInt ≤ (10 : Nat)
      · have hw : ¬ ((0 : Int) ≤ w.toInt ∧ w.toInt ≤ (1 : Nat)) := fun q => hb ⟨hb1, hp, q⟩
        simp only [f_X12_sticks, p_thr, bA_s, c162, m_isThere hM' r18, b2_s, if_neg hz, if_neg one0, m_isErrand, if_pos hb1, hin, if_pos hp, hin1, if_neg hw, if_true]
      · simp only [f_X12_sticks, p_thr, bA_s, c162, m_isThere hM' r18, b2_s, if_neg hz, if_neg one0, m_isErrand, if_pos hb1, hin, if_neg hp, if_true]
    · simp only [f_X12_sticks, p_thr, bA_s, c162, m_isThere hM' r18, b2_s, if_neg hz, if_neg one0, m_isErrand, if_neg hb1, if_true]
set_option maxRecDepth 100000 in
set_option maxHeartbeats 8000000 in
theorem k_sticks_l (h : Inv I D K n N) (hc : CH I D K n 9 r) (hM : MH (I 166) r) (r18 : r 1 ≤ 8) (hz : ¬ r 1 = 0) (x y z p w v V : Int32) (hb : (0 ≤ x.toInt ∧ x.toInt < 8) ∧ (0 ≤ z.toInt ∧ z.toInt ≤ 8)) (hp : (0 : Int) ≤ p.toInt ∧ p.toInt ≤ (10 : Nat)) (hw : (0 : Int) ≤ w.toInt ∧ w.toInt ≤ (1 : Nat)) (hv : ¬ v = 0) (hV : ¬ V = 0) (l1 : f_X11_lackOfRoute (enc I D K n Z) 0 x y z = some (v, enc I D K n Z)) (lF : f_X11_found (enc I D K n Z) 0 v = some (V, enc (va_up I 0 (upd (I 0) 15 v)) D K n Z)) (l2 : f_X12_rowFound (enc (thr (va_up I 0 (upd (I 0) 15 v))) D K n Z) 162 x y z = some (V, enc (stI I v) D K n Z)) : GD Z N (enc I D K n Z) (fun h => f_X11_sticks h 0 x y z p w) (fun h => f_X12_sticks h 162 x y z p w) := by
  have hM2 : MH (thr (va_up I 0 (upd (I 0) 15 v)) 166) r := by rw [thr_n (by decide), va_up_ne _ _ (by decide)]; exact hM
  have hin : ∀ h : Hp, f_X12_in h p.toInt64 (0 : Int64) (10 : Int64) = some (if (0 : Int) ≤ p.toInt ∧ p.toInt ≤ (10 : Nat) then 1 else 0, h) := fun h => in02 h p 10 (by decide) (by decide)
  have hin1 : ∀ h : Hp, f_X12_in h w.toInt64 (0 : Int64) (1 : Int64) = some (if (0 : Int) ≤ w.toInt ∧ w.toInt ≤ (1 : Nat) then 1 else 0, h) := fun h => in02 h w 1 (by decide) (by decide)
  obtain ⟨p0, p1⟩ := yesUb (show 10 < 2 ^ 31 by decide) hp
  have p1 : ¬ (10 : Int32) < p := p1
  obtain ⟨w0, w1⟩ := yes0b (show 1 < 2 ^ 31 by decide) hw
  have w1 : w ≤ (1 : Int32) := w1
  refine ⟨V.toInt64, enc (va_up I 0 (upd (I 0) 15 v)) D K n Z, stI I v, D, K, n, ?_, ?_, h.told v⟩
  · simp only [f_X11_sticks, r0_3, bA_s, c9, c_stands9 h9 hc.1.1 r18, b2_s, if_neg hz, if_neg one0, c_bad, if_pos hb, if_true, if_neg p0, if_neg p1, if_neg w0, if_pos w1, c0, l1, if_neg hv, lF]
  · simp only [f_X12_sticks, p_thr, bA_s, c162, m_isThere hM2 r18, b2_s, if_neg hz, if_neg one0, m_isErrand, if_pos hb, hin, if_pos hp, hin1, if_pos hw, l2, if_neg hV]
set_option maxRecDepth 100000 in
set_option maxHeartbeats 8000000 in
theorem k_sticks (h : Inv I D K n N) (hN : N ≤ 2000) (x y z p w : Int32) : GD Z N (enc I D K n Z) (fun h => f_X11_sticks h 0 x y z p w) (fun h => f_X12_sticks h 162 x y z p w) := by
  obtain ⟨r, hc, hM, hw⟩ := h.2.2.1
  obtain ⟨r18, r08⟩ := ho8 hw
  by_cases hz : r 1 = 0
  · exact k_sticks_s h hc hM r18 hz x y z p w
  · have hwf := st_wf hw hz
    by_cases hb : ((0 ≤ x.toInt ∧ x.toInt < 8) ∧ (0 ≤ z.toInt ∧ z.toInt ≤ 8)) ∧ ((0 : Int) ≤ p.toInt ∧ p.toInt ≤ (10 : Nat)) ∧ ((0 : Int) ≤ w.toInt ∧ w.toInt ≤ (1 : Nat))
    · obtain ⟨hb, hpp, hww⟩ := hb
      obtain ⟨k, hk, rfl⟩ := (ix_in (x := x) (m := 8) (by decide)).mp hb.1
      obtain ⟨c, hc0, rfl⟩ := (ix_in (x := z) (m := 9) (by decide)).mp ⟨hb.2.1, by omega⟩
      rcases route (K := K) (n := n) (Z := Z) h.1 h.2.2.2.2.2.1.1 hk (show c ≤ 8 by omega) y with ⟨f, f0, f3, l1, l2⟩ | ⟨i, rfl, hi, l1, l2⟩
      · have ef : (nI f = (0 : Int32)) = (f = 0) := z_eq (by omega) (by decide)
        have l2' := l2 (thr (va_up I 0 (upd (I 0) 15 (nI f)))) D K n (by rw [thr_n (by decide), va_up_ne _ _ (by decide)]) (by rw [thr_n (by decide), va_up_ne _ _ (by decide)])
        rw [told_eq] at l2'
        exact k_sticks_l h hc hM r18 hz (nI k) y (nI c) p w (nI f) _ hb hpp hww (by rw [ef]; exact f0) (fne f0 f3) l1 (f_found _) l2'
      · obtain ⟨I1, D1, a1, a2, a3, a4⟩ := c_foretell (I := I) (D := D) (Z := Z) (s_R1 hk) (by decide) (show 23 < 31 + 2 * k by omega) h.2.2.2.2.2.2 hc hwf hN hi (show c ≤ 8 by omega)
        have hgf : (wGo r (itm (I (31 + 2 * k)) i c)).2.1 < 2 ^ 31 := wGo_f _
        have hgw := wGo_w hwf hN (itm (I (31 + 2 * k)) i c)
        have hgl := wGo_len hwf hN (itm (I (31 + 2 * k)) i c)
        generalize hI2 : va_up I1 0 (upd (I1 0) 15 0) = I2
        obtain ⟨J, m1, m2, m3, m4, m5, m6⟩ := found_m (K := K) (n := n) (I1 := I2) (D1 := D1) hM (fun x a b => by rw [← hI2, va_up_ne _ _ b, a3.1 x a]) l2
        obtain ⟨J2, e1, e2, e3⟩ := m_ld (D := D1) (K := K) (n := n) (Z := Z) m4
        obtain ⟨J3, d1, d2, d3, d4, d5, d6⟩ := m_gd (D := D1) (K := K) (n := n) (Z := Z) e2 hwf hN (show c ≤ 8 by omega)
        rw [e3 171 (by decide), m6] at d1 d2 d3
        generalize hg : wGo r (itm (I (31 + 2 * k)) i c) = g at a2 hgf d1 d2 d3 hgw hgl
        obtain ⟨w3, w5, w6, w7, w8, w9, w10, wl⟩ := a2
        obtain ⟨⟨v21, v22, v23, v24, v25⟩, v172⟩ := d3
        have i16 : I2 16 = I1 16 := by rw [← hI2, va_up_ne _ _ (by decide)]
        have ez : (nI g.2.1 = (0 : Int32)) = (g.2.1 = 0) := z_eq hgf (by decide)
        have ew : (nI g.2.2 ≤ (0 : Int32)) = (g.2.2 ≤ 0) := z_le (m := 0) (by omega) (by decide)
        have hin : ∀ h : Hp, f_X12_in h p.toInt64 (0 : Int64) (10 : Int64) = some (if (0 : Int) ≤ p.toInt ∧ p.toInt ≤ (10 : Nat) then 1 else 0, h) := fun h => in02 h p 10 (by decide) (by decide)
        have hin1 : ∀ h : Hp, f_X12_in h w.toInt64 (0 : Int64) (1 : Int64) = some (if (0 : Int) ≤ w.toInt ∧ w.toInt ≤ (1 : Nat) then 1 else 0, h) := fun h => in02 h w 1 (by decide) (by decide)
        obtain ⟨p0, p1⟩ := yesUb (show 10 < 2 ^ 31 by decide) hpp
        have p1 : ¬ (10 : Int32) < p := p1
        obtain ⟨w0, w1⟩ := yes0b (show 1 < 2 ^ 31 by decide) hww
        have w1 : w ≤ (1 : Int32) := w1
        obtain ⟨pp, hp11, rfl⟩ := (ix_in (x := p) (m := 11) (by decide)).mp ⟨hpp.1, by omega⟩
        obtain ⟨ww, hw2, rfl⟩ := (ix_in (x := w) (m := 2) (by decide)).mp ⟨hww.1, by omega⟩
        have hinv : Inv J3 D1 K n (N + 1) := h.dream (I' := I1) a3 a4 (s := 0) (by rw [hI2]; exact m2.trans ((FM.lay e3).trans d4)) (by rw [d6, e3 162 (by decide)]; exact m3)
        have hok := st_all pp hp11 g.1.2.2.2.2.1.length (by omega) ww hw2
        by_cases e : g.2.1 = 0
        · obtain ⟨cc, u, v, s1, s2, s3, s4, s5⟩ := st_use hok.2
          have ge : ¬ g.2.2 ≤ 0 := by have := hgw.2.mp e; omega
          rw [if_neg (show ¬ (1 : Int64) = 0 by decide)] at s5
          refine ⟨st_mul (if nI ww = 0 then ((10 : Int32) - nI pp) / cc else (10 : Int32) / cc).toInt64 g.1.2.2.2.2.1.length 1, enc I2 D1 K n Z, J3, D1, K, n, ?_, ?_, hinv⟩
          · simp only [f_X11_sticks, r0_3, bA_s, c9, c_stands9 h9 hc.1.1 r18, b2_s, if_neg hz, if_neg one0, c_bad, if_pos hb, if_true, if_neg p0, if_neg p1, if_neg w0, if_pos w1, c0, l1, r0_0, aldn_e s_1 k hk (show 8 < 2 ^ 31 by decide), h.2.2.2.2.2.1.1 k hk, gN_e (s_R hk) 0 rfl, a1, f_X11_well, p0_15, hI2, c_commonDivisor _ s1, r0_5, g16_10, i16, w10, ez, if_pos e, if_neg s3, nzI]
            by_cases t0 : nI ww = 0
            · simp only [if_pos t0, bA_s, r0_5, g16_3, i16, w3, c_power _ _ hgl, b2_s]
            · simp only [if_neg t0, bA_s, r0_5, g16_3, i16, w3, c_power _ _ hgl, b2_s]
          · simp only [f_X12_sticks, p_thr, bA_s, c162, m_isThere m5 r18, b2_s, if_neg hz, if_neg one0, m_isErrand, if_pos hb, hin, if_pos hpp, hin1, if_pos hww, m1, if_true, e1, r162_7, d1, ew, if_neg ge]
            have q := m_st_mul (D := D1) (K := K) (n := n) (Z := Z) (fun y78 y79 y80 h77 => f_X12_sticks_L146 (fun y85 y86 h84 => bA (if nI ww = 0 then some y78 else some y79) fun j88 => bA (nzL y85) fun u92 => some ((j88 / y85), h84)) 162 (nI k) (nI i) (nI c) (nI pp) (nI ww) 0 (nI g.2.2) y78 y79 2000 h77 y78 y79) (nI k) (nI i) (nI c) (nI pp) (nI ww) 0 (nI g.2.2) hgl v21 g.1.2.2.2.2.1.length 2000 0 1 1 (by omega) (by omega)
            rw [show nI 0 = (0 : Int32) by decide] at q
            refine q.trans ?_
            refine (m_st_gcd _ (nI k) (nI i) (nI c) (nI pp) (nI ww) 0 (nI g.2.2) _ _ _ 60 1940 _ _ u v s2).trans ?_
            simp only [nzL, if_neg s4, bA_s]
            rw [← s5]
            by_cases t0 : nI ww = 0
            · simp only [if_pos t0, bA_s]
            · simp only [if_neg t0, bA_s]
        · obtain ⟨cc, u, v, s1, s2, s3, s4, s5⟩ := st_use hok.1
          have ge : g.2.2 ≤ 0 := by have := mt hgw.2.mpr e; omega
          rw [if_pos (show (0 : Int64) = 0 by decide)] at s5
          refine ⟨(nI ww).toInt64, enc I2 D1 K n Z, J3, D1, K, n, ?_, ?_, hinv⟩
          · simp only [f_X11_sticks, r0_3, bA_s, c9, c_stands9 h9 hc.1.1 r18, b2_s, if_neg hz, if_neg one0, c_bad, if_pos hb, if_true, if_neg p0, if_neg p1, if_neg w0, if_pos w1, c0, l1, r0_0, aldn_e s_1 k hk (show 8 < 2 ^ 31 by decide), h.2.2.2.2.2.1.1 k hk, gN_e (s_R hk) 0 rfl, a1, f_X11_well, p0_15, hI2, c_commonDivisor _ s1, r0_5, g16_10, i16, w10, ez, if_neg e]
          · simp only [f_X12_sticks, p_thr, bA_s, c162, m_isThere m5 r18, b2_s, if_neg hz, if_neg one0, m_isErrand, if_pos hb, hin, if_pos hpp, hin1, if_pos hww, m1, if_true, e1, r162_7, d1, ew, if_pos ge]
            have q := m_st_mul (D := D1) (K := K) (n := n) (Z := Z) (fun y78 y79 y80 h77 => f_X12_sticks_L146 (fun y85 y86 h84 => bA (if nI ww = 0 then some y78 else some y79) fun j88 => bA (nzL y85) fun u92 => some ((j88 / y85), h84)) 162 (nI k) (nI i) (nI c) (nI pp) (nI ww) 0 (nI g.2.2) y78 y79 2000 h77 y78 y79) (nI k) (nI i) (nI c) (nI pp) (nI ww) 0 (nI g.2.2) hgl v21 g.1.2.2.2.2.1.length 2000 0 0 1 (by omega) (by omega)
            rw [show nI 0 = (0 : Int32) by decide] at q
            refine q.trans ?_
            refine (m_st_gcd _ (nI k) (nI i) (nI c) (nI pp) (nI ww) 0 (nI g.2.2) _ _ _ 60 1940 _ _ u v s2).trans ?_
            simp only [nzL, if_neg s4, bA_s]
            rw [← s5]
            by_cases t0 : nI ww = 0
            · simp only [if_pos t0, bA_s]
            · simp only [if_neg t0, bA_s]
    · exact k_sticks_b h hc hM r18 hz x y z p w hb
end Sticks
