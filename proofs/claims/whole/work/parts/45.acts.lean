/-! ACTS -/
section Acts
variable {I I2 : Nat → Nat → Int32} {D D2 : Nat → Nat → Option Nat} {K K2 : Nat → Nat} {n n2 N N' : Nat} {Z : Nat → Cl} {r : Ro}
theorem isH_act {t : Nat} (h : t < 24) : isH (46 + 4 * t) := Or.inr (Or.inr (Or.inr ⟨by omega, by omega, by omega⟩))
theorem isH_img {t : Nat} (h : t < 2) : isH (142 + 4 * t) := Or.inr (Or.inr (Or.inr ⟨by omega, by omega, by omega⟩))
theorem acts_push {o c : Nat} (ho : o < 24) (hc : c ≤ 24) (h6 : ∀ i, i < c → ∃ r, wf r N ∧ CH I D K n (46 + 4 * ((o + i) % 24)) r ∧ ∀ j, j < 54 → I 169 (54 * i + j) = nI (r j)) (hr : CH I D K n 9 r) (hM : MH (I 166) r) (hw : wf r N) (hN : N ≤ N') (g : DK I K n I2 K2 n2) (hs : HF I D I2 D2 (46 + 4 * ((o + c) % 24)) 9) (ho' : ∀ t, t < 24 → t ≠ (o + c) % 24 → HF I D I2 D2 (46 + 4 * t) (46 + 4 * t)) (e12 : I2 0 12 = nI (if c = 24 then (o + 1) % 24 else o)) (e13 : I2 0 13 = nI (if c = 24 then 24 else c + 1)) (e9 : I2 162 9 = nI (if c = 24 then 24 else c + 1)) (q1 : ∀ i j, j < 54 → i < (if c = 24 then 23 else c) → I2 169 (54 * i + j) = I 169 (54 * (if c = 24 then i + 1 else i) + j)) (q2 : ∀ j, j < 54 → I2 169 (54 * (if c = 24 then 23 else c) + j) = I 166 j) : ActsI I2 D2 K2 n2 N' := by
  by_cases hc24 : c = 24
  · simp only [if_pos hc24] at e12 e13 e9 q1 q2
    refine ⟨(o + 1) % 24, 24, by omega, by omega, e12, e13, e9, fun i hi => ?_⟩
    by_cases e : i = 23
    · subst e
      refine ⟨r, hw.mono hN, ?_, fun j hj => by rw [q2 j hj]; exact hM j hj⟩
      have := hr.move hw.le8.1 hw.le8.2 hs g
      rw [show ((o + 1) % 24 + 23) % 24 = (o + c) % 24 by omega]
      exact this
    · obtain ⟨r', k1, k2, k3⟩ := h6 (i + 1) (by omega)
      refine ⟨r', k1.mono hN, ?_, fun j hj => by rw [q1 i j hj (by omega)]; exact k3 j hj⟩
      rw [show ((o + 1) % 24 + i) % 24 = (o + (i + 1)) % 24 by omega]
      exact k2.move k1.le8.1 k1.le8.2 (ho' _ (by omega) (by omega)) g
  · simp only [if_neg hc24] at e12 e13 e9 q1 q2
    refine ⟨o, c + 1, by omega, by omega, e12, e13, e9, fun i hi => ?_⟩
    by_cases e : i = c
    · subst e
      exact ⟨r, hw.mono hN, hr.move hw.le8.1 hw.le8.2 hs g, fun j hj => by rw [q2 j hj]; exact hM j hj⟩
    · obtain ⟨r', k1, k2, k3⟩ := h6 i (by omega)
      exact ⟨r', k1.mono hN, k2.move k1.le8.1 k1.le8.2 (ho' _ (by omega) (by omega)) g, fun j hj => by rw [q1 i j hj (by omega)]; exact k3 j hj⟩
set_option maxRecDepth 100000 in
set_option maxHeartbeats 4000000 in
theorem c_keep {o c : Nat} (hD : DV D K n) (hRf : RefI D) (ho : o < 24) (hc : c ≤ 24) (e12 : I 0 12 = nI o) (e13 : I 0 13 = nI c) : ∃ I' D', f_X11_keepAct (enc I D K n Z) 0 = some (enc I' D' K n Z) ∧ HF I D I' D' (46 + 4 * ((o + c) % 24)) 9 ∧ (∀ x, (x < 46 + 4 * ((o + c) % 24) ∨ 46 + 4 * ((o + c) % 24) + 2 < x) → x ≠ 0 → I' x = I x) ∧ (∀ x, x ≠ 46 + 4 * ((o + c) % 24) + 3 → D' x = D x) ∧ DV D' K n ∧ I' 0 12 = nI (if c = 24 then (o + 1) % 24 else o) ∧ I' 0 13 = nI (if c = 24 then 24 else c + 1) ∧ (∀ j, j ≠ 12 → j ≠ 13 → I' 0 j = I 0 j) := by
  have hm : (o + c) % 24 < 24 := Nat.mod_lt _ (by decide)
  generalize hs : (o + c) % 24 = s at hm
  have hH := isH_act hm
  have ei : nI o + nI c - (nI o + nI c) / (24 : Int32) * (24 : Int32) = nI s := by
    rw [nI_add, show (24 : Int32) = nI 24 from rfl, ← hs]; exact pk_rem (by omega) (by decide) (by decide)
  obtain ⟨I1, D1, b1, b2', b3, b4, b5⟩ := c_become (I := I) (D := D) (K := K) (n := n) (Z := Z) hH h9 (by omega) hD
  have f0 : I1 0 = I 0 := b3 0 (by omega) (by omega) (by omega)
  simp only [f_X11_keepAct, r0_7, g0_12, g0_13, bA_s, e12, e13, ei, aldn_e s_24 s hm (by decide), hRf.2.1 s hm, r0_3, isC_e (s_H hH), b1, f0]
  have e24 : ((24 : Int32) ≤ nI c) = (24 ≤ c) := z_le (by decide) (by omega)
  simp only [e24]
  by_cases h24 : c = 24
  · have e1 : nI o + (1 : Int32) - (nI o + (1 : Int32)) / (24 : Int32) * (24 : Int32) = nI ((o + 1) % 24) := by
      rw [z_i2, show (24 : Int32) = nI 24 from rfl]; exact pk_rem (by omega) (by decide) (by decide)
    simp only [if_pos (show 24 ≤ c by omega), if_pos h24, e1, p0_12, bA_s, f0]
    refine ⟨_, D1, rfl, ⟨?_, ?_, ?_, b2'.2.2.2⟩, ?_, b4, b5, ?_, ?_, ?_⟩
    · intro j a b; rw [va_up_ne _ _ (by omega)]; exact b2'.1 j a b
    · intro j a; rw [va_up_ne _ _ (by omega)]; exact b2'.2.1 j a
    · intro j a; rw [va_up_ne _ _ (by omega)]; exact b2'.2.2.1 j a
    · intro x a b; rw [va_up_ne _ _ b]; exact b3 x (by omega) (by omega) (by omega)
    · rw [va_up_self, pk_us]
    · rw [va_up_self, pk_un (by decide), e13, h24]
    · intro j a b; rw [va_up_self, pk_un a]
  · simp only [if_neg (show ¬ 24 ≤ c by omega), if_neg h24, p0_13, bA_s, f0, z_i2]
    refine ⟨_, D1, rfl, ⟨?_, ?_, ?_, b2'.2.2.2⟩, ?_, b4, b5, ?_, ?_, ?_⟩
    · intro j a b; rw [va_up_ne _ _ (by omega)]; exact b2'.1 j a b
    · intro j a; rw [va_up_ne _ _ (by omega)]; exact b2'.2.1 j a
    · intro j a; rw [va_up_ne _ _ (by omega)]; exact b2'.2.2.1 j a
    · intro x a b; rw [va_up_ne _ _ b]; exact b3 x (by omega) (by omega) (by omega)
    · rw [va_up_self, pk_un (by decide), e12]
    · rw [va_up_self, pk_us]
    · intro j a b; rw [va_up_self, pk_un b]
/-- what acts leave alone -/
def FrA (I I' : Nat → Nat → Int32) : Prop := (∀ x, (x = 3 ∨ (26 ≤ x ∧ x ≤ 27) ∨ (30 ≤ x ∧ x ≤ 45) ∨ (142 ≤ x ∧ x ≤ 149) ∨ (163 ≤ x ∧ x ≤ 165) ∨ x = 170 ∨ (174 ≤ x ∧ x ≤ 176)) → I' x = I x) ∧ I' 0 14 = I 0 14 ∧ I' 2 2 = I 2 2 ∧ (∀ j, j = 11 ∨ j = 18 ∨ j = 31 → I' 162 j = I 162 j)
theorem Inv.acted (h : Inv I D K n N) (hN : N ≤ N') (f : FrA I I2) (fd : ∀ x, (x = 1 ∨ x = 24 ∨ x = 25 ∨ x = 28 ∨ (142 ≤ x ∧ x ≤ 149)) → D2 x = D x) (g : DK I K n I2 K2 n2) (dv : DV D2 K2 n2) (hs : I2 0 15 = I2 162 1) (hl : LedgI I2) (hh : HouseI I2 D2 K2 n2 N') (ha : ActsI I2 D2 K2 n2 N') : Inv I2 D2 K2 n2 N' := by
  obtain ⟨h1, ⟨h2, h3, h4, h5, h6⟩, h7, h8, h9', h10, h11⟩ := h
  obtain ⟨f1, f2, f3, f4⟩ := f
  refine ⟨h1.keep (fun x hx => f1 x (by omega)), ⟨h2.keep f3 (f1 3 (by omega)) (f4 11 (by omega)) (f1 170 (by omega)), ?_, hs, hl, h6.keep (by rw [f1 26 (by omega)]) (f1 27 (by omega)) (f4 31 (by omega)) (f1 176 (by omega))⟩, hh, ha, h9'.keep hN g (fun x a b => ⟨f1 x (by omega), fd x (by omega)⟩) (f1 174 (by omega)) (f1 175 (by omega)), h10.keep (fun x hx => fd x (by omega)), dv⟩
  rw [f2, f4 18 (by omega)]; exact h3
theorem wf.wear {k : Nat} (h : wf r N) {v : Nat} (hv : v ≤ N) : wf (uN r (18 + 5 * k) v) N := by
  obtain ⟨h1, h2, h3, h4, h5, h6, h7⟩ := h
  have o0 : ∀ j, j ≠ 18 + 5 * k → uN r (18 + 5 * k) v j = r j := fun j h => uN_n _ h
  have os : uN r (18 + 5 * k) v (18 + 5 * k) = v := uN_s _ _ _
  generalize uN r (18 + 5 * k) v = R at o0 os
  refine ⟨?_, ?_, ?_, ?_, ?_, fun j hj => ?_, fun j hj => ?_⟩
  · rw [o0 1 (by omega)]; exact h1
  · rw [o0 0 (by omega)]; exact h2
  · rw [o0 2 (by omega)]; exact h3
  · rw [o0 3 (by omega)]; exact h4
  · rw [o0 4 (by omega)]; exact h5
  · rw [o0 _ (by omega)]; exact h6 j hj
  · rw [o0 0 (by omega)] at hj
    obtain ⟨u1, u2, u3, u4, u5, u6⟩ := h7 j hj
    rw [o0 (14 + 5 * j) (by omega), o0 (15 + 5 * j) (by omega), o0 (16 + 5 * j) (by omega), o0 (17 + 5 * j) (by omega), o0 1 (by omega)]
    refine ⟨u1, u2, u3, u4, u5, ?_⟩
    by_cases e : j = k
    · subst e; rw [os]; exact hv
    · rw [o0 _ (by omega)]; exact u6
theorem wf.low {i : Nat} (h : wf r N) {v : Nat} (hi : (i = 2 ∧ 1 ≤ v ∧ v ≤ 9) ∨ (i = 3 ∧ 1 ≤ v ∧ v ≤ 60) ∨ (i = 4 ∧ v ≤ 63) ∨ (6 ≤ i ∧ i < 14 ∧ v ≤ 20) ∨ i = 5) : wf (uN r i v) N := by
  obtain ⟨h1, h2, h3, h4, h5, h6, h7⟩ := h
  have o0 : ∀ j, j ≠ i → uN r i v j = r j := fun j h => uN_n _ h
  have os : uN r i v i = v := uN_s _ _ _
  generalize uN r i v = R at o0 os
  refine ⟨?_, ?_, ?_, ?_, ?_, fun j hj => ?_, fun j hj => ?_⟩
  · rw [o0 1 (by omega)]; exact h1
  · rw [o0 0 (by omega)]; exact h2
  · by_cases e : 2 = i
    · rw [e, os]; omega
    · rw [o0 2 (by omega)]; exact h3
  · by_cases e : 3 = i
    · rw [e, os]; omega
    · rw [o0 3 (by omega)]; exact h4
  · by_cases e : 4 = i
    · rw [e, os]; omega
    · rw [o0 4 (by omega)]; exact h5
  · by_cases e : 6 + j = i
    · rw [e, os]; omega
    · rw [o0 _ (by omega)]; exact h6 j hj
  · rw [o0 0 (by omega)] at hj
    obtain ⟨u1, u2, u3, u4, u5, u6⟩ := h7 j hj
    rw [o0 (14 + 5 * j) (by omega), o0 (15 + 5 * j) (by omega), o0 (16 + 5 * j) (by omega), o0 (17 + 5 * j) (by omega), o0 (18 + 5 * j) (by omega), o0 1 (by omega)]
    exact ⟨u1, u2, u3, u4, u5, u6⟩
theorem CH.wear {a k : Nat} (ha : isH a) (h : CH I D K n a r) (h18 : r 1 ≤ 8) (v : Nat) : CH (va_up I (a + 2) (upd (I (a + 2)) k (nI v))) D K n a (uN r (18 + 5 * k) v) := by
  have := isH_lt ha
  obtain ⟨⟨a3, a4, a5, a6, a7, a8⟩, b1, b2, b3⟩ := h
  have o0 : ∀ j, j ≠ 18 + 5 * k → uN r (18 + 5 * k) v j = r j := fun j h => uN_n _ h
  have os : uN r (18 + 5 * k) v (18 + 5 * k) = v := uN_s _ _ _
  generalize uN r (18 + 5 * k) v = R at o0 os
  refine ⟨⟨?_, ?_, ?_, ?_, ?_, ?_⟩, fun j hj => ?_, fun j hj => ?_, fun j hj => ?_⟩
  · rw [va_up_ne _ _ (by omega), o0 _ (by omega)]; exact a3
  · rw [va_up_ne _ _ (by omega), o0 _ (by omega)]; exact a4
  · rw [va_up_ne _ _ (by omega), o0 _ (by omega)]; exact a5
  · rw [va_up_ne _ _ (by omega), o0 _ (by omega)]; exact a6
  · rw [va_up_ne _ _ (by omega), o0 _ (by omega)]; exact a7
  · rw [va_up_ne _ _ (by omega), o0 _ (by omega)]; exact a8
  · rw [o0 1 (by omega)] at hj
    rw [va_up_ne _ _ (by omega), o0 _ (by omega)]; exact b1 j hj
  · rw [o0 0 (by omega)] at hj
    rw [va_up_self]
    by_cases e : j = k
    · subst e; rw [pk_us, os]
    · rw [pk_un e, o0 _ (by omega)]; exact b2 j hj
  · rw [o0 0 (by omega)] at hj
    obtain ⟨q, h1, h2⟩ := b3 j hj
    have := h2.1.1
    exact ⟨q, h1, (h2.keep (va_up_ne _ _ (by omega))).rows (fun w hw => o0 _ (by omega))⟩
theorem CH.weight {a k : Nat} (ha : isH a) (h : CH I D K n a r) (hk : k < 8) (v : Nat) : CH (va_up I (a + 1) (upd (I (a + 1)) k (nI v))) D K n a (uN r (6 + k) v) := by
  have := isH_lt ha
  obtain ⟨⟨a3, a4, a5, a6, a7, a8⟩, b1, b2, b3⟩ := h
  have o0 : ∀ j, j ≠ 6 + k → uN r (6 + k) v j = r j := fun j h => uN_n _ h
  have os : uN r (6 + k) v (6 + k) = v := uN_s _ _ _
  generalize uN r (6 + k) v = R at o0 os
  refine ⟨⟨?_, ?_, ?_, ?_, ?_, ?_⟩, fun j hj => ?_, fun j hj => ?_, fun j hj => ?_⟩
  · rw [va_up_ne _ _ (by omega), o0 _ (by omega)]; exact a3
  · rw [va_up_ne _ _ (by omega), o0 _ (by omega)]; exact a4
  · rw [va_up_ne _ _ (by omega), o0 _ (by omega)]; exact a5
  · rw [va_up_ne _ _ (by omega), o0 _ (by omega)]; exact a6
  · rw [va_up_ne _ _ (by omega), o0 _ (by omega)]; exact a7
  · rw [va_up_ne _ _ (by omega), o0 _ (by omega)]; exact a8
  · rw [o0 1 (by omega)] at hj
    rw [va_up_self]
    by_cases e : j = k
    · subst e; rw [pk_us, os]
    · rw [pk_un e, o0 _ (by omega)]; exact b1 j hj
  · rw [o0 0 (by omega)] at hj
    rw [va_up_ne _ _ (by omega), o0 _ (by omega)]; exact b2 j hj
  · rw [o0 0 (by omega)] at hj
    obtain ⟨q, h1, h2⟩ := b3 j hj
    have := h2.1.1
    exact ⟨q, h1, (h2.keep (va_up_ne _ _ (by omega))).rows (fun w hw => o0 _ (by omega))⟩
theorem CH.slot {a s i : Nat} (ha : isH a) (h : CH I D K n a r) (h18 : r 1 ≤ 8) (hs : (s = 5 ∧ i = 2) ∨ (s = 6 ∧ i = 3) ∨ (s = 7 ∧ i = 4)) (v : Nat) : CH (va_up I a (upd (I a) s (nI v))) D K n a (uN r i v) := by
  have := isH_lt ha
  obtain ⟨⟨a3, a4, a5, a6, a7, a8⟩, b1, b2, b3⟩ := h
  have o0 : ∀ j, j ≠ i → uN r i v j = r j := fun j h => uN_n _ h
  have os : uN r i v i = v := uN_s _ _ _
  generalize uN r i v = R at o0 os
  have hsl : ∀ s' i', ((s' = 5 ∧ i' = 2) ∨ (s' = 6 ∧ i' = 3) ∨ (s' = 7 ∧ i' = 4)) → I a s' = nI (r i') → upd (I a) s (nI v) s' = nI (R i') := by
    intro s' i' h1 h2
    by_cases e : s' = s
    · have e2 : i' = i := by omega
      rw [e, e2, pk_us, os]
    · rw [pk_un e, o0 _ (by omega)]; exact h2
  refine ⟨⟨?_, ?_, ?_, ?_, ?_, ?_⟩, fun j hj => ?_, fun j hj => ?_, fun j hj => ?_⟩
  · rw [va_up_self, pk_un (by omega), o0 _ (by omega)]; exact a3
  · rw [va_up_self, pk_un (by omega), o0 _ (by omega)]; exact a4
  · rw [va_up_self]; exact hsl 5 2 (by omega) a5
  · rw [va_up_self]; exact hsl 6 3 (by omega) a6
  · rw [va_up_self]; exact hsl 7 4 (by omega) a7
  · rw [va_up_self, pk_un (by omega), o0 _ (by omega)]; exact a8
  · rw [o0 1 (by omega)] at hj
    rw [va_up_ne _ _ (by omega), o0 _ (by omega)]; exact b1 j hj
  · rw [o0 0 (by omega)] at hj
    rw [va_up_ne _ _ (by omega), o0 _ (by omega)]; exact b2 j hj
  · rw [o0 0 (by omega)] at hj
    obtain ⟨q, h1, h2⟩ := b3 j hj
    have := h2.1.1
    exact ⟨q, h1, (h2.keep (va_up_ne _ _ (by omega))).rows (fun w hw => o0 _ (by omega))⟩
end Acts
