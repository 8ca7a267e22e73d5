/-! THE CLASS'S WALK -/
def CW (I : Nat → Nat → Int32) (D : Nat → Nat → Option Nat) (K : Nat → Nat) (n wa : Nat) (s : WS) : Prop :=
  CH I D K n (wa + 1) s.1 ∧ (I wa 3 = nI s.2.2.2.2.1.length ∧ I wa 4 = nI (obits s.2.2.2.2.1) ∧ I wa 5 = nI s.2.1 ∧ I wa 6 = nI s.2.2.1 ∧ I wa 7 = nI s.2.2.2.1 ∧ I wa 8 = nI s.2.2.2.2.2) ∧
  (∀ i, i < s.2.2.2.2.1.length → I (wa + 7) i = nI (s.2.2.2.2.1.getD i 0)) ∧ I (wa + 5) 1 = nI s.2.2.2.2.1.length ∧ (∀ i, i < s.2.2.2.2.1.length → I (wa + 6) i = nI (100 + s.2.2.2.2.1.getD i 0))
/-- what a walk may change -/
def FrW (wa : Nat) (I I' : Nat → Nat → Int32) : Prop := ∀ x, x ≠ wa → x ≠ wa + 3 → x ≠ wa + 5 → x ≠ wa + 6 → x ≠ wa + 7 → I' x = I x
theorem getD_app_lt {l : List Nat} {k i : Nat} (h : i < l.length) : (l ++ [k]).getD i 0 = l.getD i 0 := by
  simp [List.getD_eq_getElem?_getD, List.getElem?_append_left h]
theorem getD_app_eq {l : List Nat} {k : Nat} : (l ++ [k]).getD l.length 0 = k := by
  simp [List.getD_eq_getElem?_getD]
section WalkC
variable {I : Nat → Nat → Int32} {D : Nat → Nat → Option Nat} {K : Nat → Nat} {n : Nat} {Z : Nat → Cl}
theorem DR.keep {I' : Nat → Nat → Int32} {q k : Nat} {r : Ro} (h : DR I K n q k r) (e : I' q = I q) : DR I' K n q k r := by
  obtain ⟨h1, h2, h3, h4, h5, h6⟩ := h
  exact ⟨h1, h2, by rw [e]; exact h3, by rw [e]; exact h4, by rw [e]; exact h5, by rw [e]; exact h6⟩
theorem and_key {a m j : Nat} (ha : a < 64) (hj : j < 6) (hm : m = 2 ^ j) : ((nI a &&& nI m) = nI m) = (a.testBit j = true) := by
  subst hm
  rw [fa_and, eq_iff_iff]
  have h2 : 2 ^ j < 64 := Nat.lt_of_lt_of_le (Nat.pow_lt_pow_right (by omega) hj) (by decide)
  have h1 : a &&& 2 ^ j < 64 := Nat.lt_of_le_of_lt Nat.and_le_left ha
  rw [nI_eq (by omega) (by omega)]
  constructor
  · intro h
    have e := congrArg (fun x => Nat.testBit x j) h
    simpa [Nat.testBit_and, Nat.testBit_two_pow] using e
  · intro h
    apply Nat.eq_of_testBit_eq
    intro i
    rw [Nat.testBit_and, Nat.testBit_two_pow]
    by_cases hij : j = i
    · subst hij; simp [h]
    · simp [hij]
set_option maxRecDepth 100000 in
set_option maxHeartbeats 4000000 in
theorem c_open {wa : Nat} (hW : isW wa) {s : WS} {N k q : Nat} (hs : CW I D K n wa s) (hok : WOK s N) (hk : k < s.1 0) (hn : k ∉ s.2.2.2.2.1) (hq : DR I K n q k s.1) : ∃ I', f_X10_open (enc I D K n Z) wa q = some (nI (wOpen s k).2, enc I' D K n Z) ∧ CW I' D K n wa (wOpen s k).1 ∧ FrW wa I I' ∧ I' wa 9 = I wa 9 ∧ I' wa 10 = I wa 10 := by
  have hlen := hok.len
  have hlen2 : s.2.2.2.2.1.length < 8 := by
    have h1 := nodup_len _ _ (WOK_opened hok hk hn).2.2.2.2.1.1 (WOK_opened hok hk hn).2.2.2.2.1.2
    have h2 : (opened s k).1 0 = s.1 0 := uN_n _ (by omega)
    have h3 := hok.1.2.1.2
    rw [h2] at h1
    have h4 : (opened s k).2.2.2.2.1.length = s.2.2.2.2.1.length + 1 := by simp [opened]
    omega
  obtain ⟨r, rm, no, dr, op, ku⟩ := s
  obtain ⟨⟨⟨a3, a4, a5, a6, a7, a8⟩, b1, b2, b3⟩, ⟨w3, w4, w5, w6, w7, w8⟩, o1, l1, l2⟩ := hs
  obtain ⟨⟨v1, v2, v3, v4, v5, v6, v7⟩, k2, k3, k4, ⟨k5, k5'⟩, k6, k7, k8⟩ := hok
  simp only at a3 a4 a5 a6 a7 a8 b1 b2 b3 w3 w4 w5 w6 w7 w8 o1 l1 l2 v1 v2 v3 v4 v5 v6 v7 k2 k3 k4 k5 k5' k6 k7 hk hn hq hlen hlen2
  obtain ⟨u1, u2, u3, u4, u5, u6⟩ := v7 k hk
  have hq2 := hq
  obtain ⟨d1, d2, d3, d4, d5, d6⟩ := hq2
  have hq177 : 177 ≤ q := d1.1
  have hob : obits op < 2 ^ 8 := obits_lt (fun j hj => by have := k5' j hj; omega)
  have hwear := b2 k hk
  have hH := isW_H hW
  have hx0 : (0 : Int32) = nI 0 := by decide
  -- the door's number is within
  have e1 : f_X3_lacksDoor (enc I D K n Z) (wa + 1) (nI k) = some (0, enc I D K n Z) := by
    rw [c_lacksDoor hH v2.2 a4, toInt_nI (by omega), if_pos (by omega)]
  rcases hW with rfl | rfl
  · simp only [Nat.reduceAdd] at e1 a3 a4 a5 a6 a7 a8 b1 b2 b3 o1 l1 l2 hwear hH
    have n1 : ¬ q = 8 := by omega
    have n2 : ¬ q = 11 := by omega
    have n3 : ¬ q = 13 := by omega
    have n4 : ¬ q = 14 := by omega
    have n5 : ¬ q = 15 := by omega
    simp only [f_X10_open, r8_0, r8_1, r8_2, bA_s, gD_e d1 0 (by decide), d3, c9, e1, b2_s, if_true, g8_3, w3, n15]
    rw [if_pos (show nI op.length < nI 8 from (nI_ltI (by omega) (by decide)).mpr hlen2)]
    simp only [r9_1, bA_s, gD_e d1 0 (by decide), d3, l11 k (by omega), hwear, gC_e d1, d_key hq u5, b2_s, r8_0, g9_7, a7]
    by_cases hlk : 4 ≤ r (14 + 5 * k) ∧ (r 4).testBit (r (17 + 5 * k) % 6) = false
    · -- locked
      have hkey : keyN r k = 2 ^ (r (17 + 5 * k) % 6) := by unfold keyN; rw [if_pos hlk.1]
      have hne : ¬ (nI (r 4) &&& nI (keyN r k)) = nI (keyN r k) := by
        rw [and_key (by omega) (by omega) hkey, hlk.2]; decide
      rw [if_neg hne]
      have hw : wOpen (r, rm, no, dr, op, ku) k = ((r, rm, no, dr, op, ku), 7) := by unfold wOpen; rw [if_pos hlk]
      rw [hw]
      exact ⟨I, rfl, ⟨⟨⟨a3, a4, a5, a6, a7, a8⟩, b1, b2, b3⟩, ⟨w3, w4, w5, w6, w7, w8⟩, o1, l1, l2⟩, fun x _ _ _ _ _ => rfl, rfl, rfl⟩
    · have hyes : (nI (r 4) &&& nI (keyN r k)) = nI (keyN r k) := by
        by_cases h4 : 4 ≤ r (14 + 5 * k)
        · have hkey : keyN r k = 2 ^ (r (17 + 5 * k) % 6) := by unfold keyN; rw [if_pos h4]
          rw [and_key (by omega) (by omega) hkey]
          cases hb : (r 4).testBit (r (17 + 5 * k) % 6)
          · exact absurd ⟨h4, hb⟩ hlk
          · rfl
        · have hkey : keyN r k = 0 := by unfold keyN; rw [if_neg h4]
          rw [hkey, fa_and, Nat.and_zero]
      rw [if_pos hyes]
      simp only [bA_s, gC_e d1, d_broken hq (r (18 + 5 * k)) (by omega), b2_s]
      by_cases hbr : r (14 + 5 * k) = 5 ∧ ¬ r (18 + 5 * k) = 0
      · rw [if_pos hbr, if_neg (by decide)]
        have hw : wOpen (r, rm, no, dr, op, ku) k = ((r, rm, no, dr, op, ku), 8) := by unfold wOpen; rw [if_neg hlk, if_pos hbr]
        rw [hw]
        exact ⟨I, rfl, ⟨⟨⟨a3, a4, a5, a6, a7, a8⟩, b1, b2, b3⟩, ⟨w3, w4, w5, w6, w7, w8⟩, o1, l1, l2⟩, fun x _ _ _ _ _ => rfl, rfl, rfl⟩
      · rw [if_neg hbr, if_pos rfl]
        have hNu : isNu 13 17 := by simp [isNu]
        have h100 : (100 : Int32) + nI k = nI (100 + k) := by rw [show (100 : Int32) = nI 100 by decide, nI_add]
        simp only [r8_1, bA_s, gD_e d1 0 (by decide), d3, c13, h100, c_add hNu l1 (by omega), r8_2, g8_3, va_up_ne I _ (show 8 ≠ 14 by decide), Nat.reduceAdd]
        generalize hI1 : va_up (va_up I 14 (upd (I 14) op.length (nI (100 + k)))) 13 (upd (I 13) 1 (nI (op.length + 1))) = I1
        have f1 : ∀ x, x ≠ 14 → x ≠ 13 → I1 x = I x := fun x h1 h2 => by rw [← hI1, va_up_ne _ _ h2, va_up_ne _ _ h1]
        have fA : I1 8 = I 8 := f1 8 (by decide) (by decide)
        have fq : I1 q = I q := f1 q n4 n3
        simp only [fA, w3, fq, d3, t15 op.length (nI k) (by omega), bA_s, g8_3, gD_e d1 0 (by decide)]
        generalize hI2 : va_up I1 15 (upd (I1 15) op.length (nI k)) = I2
        have f2 : ∀ x, x ≠ 15 → I2 x = I1 x := fun x h1 => by rw [← hI2, va_up_ne _ _ h1]
        have f2A : I2 8 = I 8 := by rw [f2 8 (by decide), fA]
        have f2q : I2 q = I q := by rw [f2 q n5, fq]
        simp only [f2A, w3, z_i2, p8_3, bA_s, g8_4, gD_e d1 0 (by decide), va_up_self, va_up_ne I2 _ n1, f2q, d3, pk_un (show 4 ≠ 3 by decide), w4, sh1 k (by omega), fa_or, p8_4, g8_8, p8_8]
        have dr5 := d_loud (D := D) (Z := Z) (hq.keep (I' := va_up (va_up (va_up I2 8 (upd (I 8) 3 (nI (op.length + 1)))) 8 (upd (upd (I 8) 3 (nI (op.length + 1))) 4 (nI (obits op ||| 2 ^ k)))) 8 (upd (upd (upd (I 8) 3 (nI (op.length + 1))) 4 (nI (obits op ||| 2 ^ k))) 8 (nI (ku ||| keyN r k)))) (by rw [va_up_ne _ _ n1, va_up_ne _ _ n1, va_up_ne _ _ n1, f2q])) u5 (by omega)
        simp only [pk_un (show 8 ≠ 4 by decide), pk_un (show 8 ≠ 3 by decide), w8, fa_or, gC_e d1, bA_s, g8_6, va_up_self, dr5, b2_s, pk_un (show 6 ≠ 8 by decide), pk_un (show 6 ≠ 4 by decide), pk_un (show 6 ≠ 3 by decide), w6, nI_add, p8_6, g8_7, pk_un (show 7 ≠ 6 by decide), pk_un (show 7 ≠ 8 by decide), pk_un (show 7 ≠ 4 by decide), pk_un (show 7 ≠ 3 by decide), w7]
        simp only [bx_uu]
        generalize hR : upd (upd (upd (upd (I 8) 3 (nI (op.length + 1))) 4 (nI (obits op ||| 2 ^ k))) 8 (nI (ku ||| keyN r k))) 6 (nI (no + loudN r k)) = R3
        generalize hI3 : va_up I2 8 R3 = I3
        have f3 : ∀ x, x ≠ 8 → I3 x = I2 x := fun x h1 => by rw [← hI3, va_up_ne _ _ h1]
        have f3A : I3 8 = R3 := by rw [← hI3, va_up_self]
        have f3q : I3 q = I q := by rw [f3 q n1, f2q]
        simp only [d_gap (D := D) (Z := Z) (hq.keep (I' := I3) f3q), b2_s, nI_add, p8_7, bA_s, r8_0, r9_1, gD_e d1 0 (by decide), f3A]
        generalize hI4 : va_up I3 8 (upd R3 7 (nI (dr + gapN r k))) = I4
        have f4 : ∀ x, x ≠ 8 → I4 x = I2 x := fun x h1 => by rw [← hI4, va_up_ne _ _ h1, f3 x h1]
        have f4A : I4 8 = upd R3 7 (nI (dr + gapN r k)) := by rw [← hI4, va_up_self]
        have f4q : I4 q = I q := by rw [f4 q n1, f2q]
        simp only [f4q, d3, t11 k (nI (r (18 + 5 * k) + 1)) (by omega), bA_s, r8_0, g8_6, g8_7, g9_6, g9_5]
        generalize hI5 : va_up I4 11 (upd (I4 11) k (nI (r (18 + 5 * k) + 1))) = I5
        have f5 : ∀ x, x ≠ 11 → I5 x = I4 x := fun x h1 => by rw [← hI5, va_up_ne _ _ h1]
        have f5A : I5 8 = upd R3 7 (nI (dr + gapN r k)) := by rw [f5 8 (by decide), f4A]
        have f5H : I5 9 = I 9 := by rw [f5 9 (by decide), f4 9 (by decide), f2 9 (by decide), f1 9 (by decide) (by decide)]
        have f5W : I5 10 = I 10 := by rw [f5 10 (by decide), f4 10 (by decide), f2 10 (by decide), f1 10 (by decide) (by decide)]
        have f4w : I4 11 = I 11 := by rw [f4 11 (by decide), f2 11 (by decide), f1 11 (by decide) (by decide)]
        have f5w : I5 11 = upd (I 11) k (nI (r (18 + 5 * k) + 1)) := by rw [← hI5, va_up_self, f4w]
        have f57 : I5 15 = upd (I 15) op.length (nI k) := by rw [f5 15 (by decide), f4 15 (by decide), ← hI2, va_up_self, f1 15 (by decide) (by decide)]
        have f55 : I5 13 = upd (I 13) 1 (nI (op.length + 1)) := by rw [f5 13 (by decide), f4 13 (by decide), f2 13 (by decide), ← hI1, va_up_self]
        have f56 : I5 14 = upd (I 14) op.length (nI (100 + k)) := by rw [f5 14 (by decide), f4 14 (by decide), f2 14 (by decide), ← hI1, va_up_ne _ _ (by decide), va_up_self]
        have f5q : ∀ x, 177 ≤ x → I5 x = I x := fun x hx => by rw [f5 x (by omega), f4 x (by omega), f2 x (by omega), f1 x (by omega) (by omega)]
        have v6' : R3 6 = nI (no + loudN r k) := by rw [← hR, pk_us]
        have v3' : R3 3 = nI (op.length + 1) := by rw [← hR, pk_un (by decide), pk_un (by decide), pk_un (by decide), pk_us]
        have v4' : R3 4 = nI (obits op ||| 2 ^ k) := by rw [← hR, pk_un (by decide), pk_un (by decide), pk_us]
        have v8' : R3 8 = nI (ku ||| keyN r k) := by rw [← hR, pk_un (by decide), pk_us]
        have v5' : R3 5 = nI rm := by rw [← hR, pk_un (by decide), pk_un (by decide), pk_un (by decide), pk_un (by decide), w5]
        have v9' : R3 9 = I 8 9 := by rw [← hR, pk_un (by decide), pk_un (by decide), pk_un (by decide), pk_un (by decide)]
        have v10' : R3 10 = I 8 10 := by rw [← hR, pk_un (by decide), pk_un (by decide), pk_un (by decide), pk_un (by decide)]
        have hloud : loudN r k ≤ 6000 := by
          unfold loudN
          split
          · omega
          · split
            · omega
            · split <;> omega
        have hgap : gapN r k ≤ 2 := by
          unfold gapN
          split
          · omega
          · split <;> omega
        simp only [f5A, f5H, pk_us, pk_un (show 6 ≠ 7 by decide), v6', a6, a5]
        simp only [z_le (show no + loudN r k < 2 ^ 31 by omega) (show r 3 < 2 ^ 31 by omega), z_le (show dr + gapN r k < 2 ^ 31 by omega) (show r 2 < 2 ^ 31 by omega)]
        have hw : wOpen (r, rm, no, dr, op, ku) k = (opened (r, rm, no, dr, op, ku) k, if r 3 < no + loudN r k then 9 else if r 2 < dr + gapN r k then 10 else 0) := by unfold wOpen; rw [if_neg hlk, if_neg hbr]
        rw [hw]
        refine ⟨I5, ?_, ?_, ?_, ?_, ?_⟩
        · by_cases c1 : no + loudN r k ≤ r 3
          · rw [if_pos c1]
            by_cases c2 : dr + gapN r k ≤ r 2
            · rw [if_pos c2]; simp only [bA_s, if_neg (show ¬ r 3 < no + loudN r k by omega), if_neg (show ¬ r 2 < dr + gapN r k by omega)]; rfl
            · rw [if_neg c2]; simp only [bA_s, if_neg (show ¬ r 3 < no + loudN r k by omega), if_pos (show r 2 < dr + gapN r k by omega)]; rfl
          · rw [if_neg c1]; simp only [if_pos (show r 3 < no + loudN r k by omega)]; rfl
        · have o0 : ∀ j, j < 14 → (opened (r, rm, no, dr, op, ku) k).1 j = r j := fun j hj => uN_n _ (by omega)
          have o1' : ∀ j w, w < 4 → (opened (r, rm, no, dr, op, ku) k).1 (14 + w + 5 * j) = r (14 + w + 5 * j) := fun j w hw' => uN_n _ (by omega)
          refine ⟨⟨⟨?_, ?_, ?_, ?_, ?_, ?_⟩, ?_, ?_, ?_⟩, ⟨?_, ?_, ?_, ?_, ?_, ?_⟩, ?_, ?_, ?_⟩
          · rw [f5H, o0 1 (by decide)]; exact a3
          · rw [f5H, o0 0 (by decide)]; exact a4
          · rw [f5H, o0 2 (by decide)]; exact a5
          · rw [f5H, o0 3 (by decide)]; exact a6
          · rw [f5H, o0 4 (by decide)]; exact a7
          · rw [f5H, o0 5 (by decide)]; exact a8
          · intro j hj
            rw [o0 1 (by decide)] at hj
            rw [f5W, o0 (6 + j) (by omega)]; exact b1 j hj
          · intro j hj
            rw [o0 0 (by decide)] at hj
            rw [f5w]
            show upd (I 11) k (nI (r (18 + 5 * k) + 1)) j = nI (uN r (18 + 5 * k) (r (18 + 5 * k) + 1) (18 + 5 * j))
            by_cases hjk : j = k
            · subst hjk; rw [pk_us, uN_s]
            · rw [pk_un hjk, uN_n _ (by omega)]; exact b2 j hj
          · intro j hj
            rw [o0 0 (by decide)] at hj
            obtain ⟨q2, hq2, hdr⟩ := b3 j hj
            refine ⟨q2, hq2, ?_⟩
            have c0 := o1' j 0 (by decide)
            have c1 := o1' j 1 (by decide)
            have c2 := o1' j 2 (by decide)
            have c3 := o1' j 3 (by decide)
            simp only [Nat.add_zero, Nat.reduceAdd] at c0 c1 c2 c3
            obtain ⟨e1, e2, e3, e4, e5, e6⟩ := hdr
            have ee := f5q q2 e1.1
            exact ⟨e1, by rw [c0]; exact e2, by rw [ee]; exact e3, by rw [ee, c1]; exact e4, by rw [ee, c2]; exact e5, by rw [ee, c3]; exact e6⟩
          · rw [f5A, pk_un (by decide), v3']; show _ = nI (op ++ [k]).length; rw [List.length_append]; rfl
          · rw [f5A, pk_un (by decide), v4']; show _ = nI (obits (op ++ [k])); rw [obits_app]
          · rw [f5A, pk_un (by decide), v5']; rfl
          · rw [f5A, pk_un (by decide), v6']; rfl
          · rw [f5A, pk_us]; rfl
          · rw [f5A, pk_un (by decide), v8']; rfl
          · intro i hi
            have hi : i < (op ++ [k]).length := hi
            rw [List.length_append] at hi
            simp only [List.length_cons, List.length_nil] at hi
            show I5 15 i = nI ((op ++ [k]).getD i 0)
            rw [f57]
            by_cases hio : i = op.length
            · subst hio; rw [pk_us, getD_app_eq]
            · rw [pk_un hio, getD_app_lt (by omega)]; exact o1 i (by omega)
          · show I5 13 1 = nI (op ++ [k]).length
            rw [f55, pk_us, List.length_append]; rfl
          · intro i hi
            have hi : i < (op ++ [k]).length := hi
            rw [List.length_append] at hi
            simp only [List.length_cons, List.length_nil] at hi
            show I5 14 i = nI (100 + (op ++ [k]).getD i 0)
            rw [f56]
            by_cases hio : i = op.length
            · subst hio; rw [pk_us, getD_app_eq]
            · rw [pk_un hio, getD_app_lt (by omega)]; exact l2 i (by omega)
        · intro x h1 h2 h3 h4 h5
          rw [f5 x h2, f4 x h1, f2 x h5, f1 x h4 h3]
        · rw [f5A, pk_un (by decide), v9']
        · rw [f5A, pk_un (by decide), v10']
  · simp only [Nat.reduceAdd] at e1 a3 a4 a5 a6 a7 a8 b1 b2 b3 o1 l1 l2 hwear hH
    have n1 : ¬ q = 16 := by omega
    have n2 : ¬ q = 19 := by omega
    have n3 : ¬ q = 21 := by omega
    have n4 : ¬ q = 22 := by omega
    have n5 : ¬ q = 23 := by omega
    simp only [f_X10_open, r16_0, r16_1, r16_2, bA_s, gD_e d1 0 (by decide), d3, c17, e1, b2_s, if_true, g16_3, w3, n23]
    rw [if_pos (show nI op.length < nI 8 from (nI_ltI (by omega) (by decide)).mpr hlen2)]
    simp only [r17_1, bA_s, gD_e d1 0 (by decide), d3, l19 k (by omega), hwear, gC_e d1, d_key hq u5, b2_s, r16_0, g17_7, a7]
    by_cases hlk : 4 ≤ r (14 + 5 * k) ∧ (r 4).testBit (r (17 + 5 * k) % 6) = false
    · -- locked
      have hkey : keyN r k = 2 ^ (r (17 + 5 * k) % 6) := by unfold keyN; rw [if_pos hlk.1]
      have hne : ¬ (nI (r 4) &&& nI (keyN r k)) = nI (keyN r k) := by
        rw [and_key (by omega) (by omega) hkey, hlk.2]; decide
      rw [if_neg hne]
      have hw : wOpen (r, rm, no, dr, op, ku) k = ((r, rm, no, dr, op, ku), 7) := by unfold wOpen; rw [if_pos hlk]
      rw [hw]
      exact ⟨I, rfl, ⟨⟨⟨a3, a4, a5, a6, a7, a8⟩, b1, b2, b3⟩, ⟨w3, w4, w5, w6, w7, w8⟩, o1, l1, l2⟩, fun x _ _ _ _ _ => rfl, rfl, rfl⟩
    · have hyes : (nI (r 4) &&& nI (keyN r k)) = nI (keyN r k) := by
        by_cases h4 : 4 ≤ r (14 + 5 * k)
        · have hkey : keyN r k = 2 ^ (r (17 + 5 * k) % 6) := by unfold keyN; rw [if_pos h4]
          rw [and_key (by omega) (by omega) hkey]
          cases hb : (r 4).testBit (r (17 + 5 * k) % 6)
          · exact absurd ⟨h4, hb⟩ hlk
          · rfl
        · have hkey : keyN r k = 0 := by unfold keyN; rw [if_neg h4]
          rw [hkey, fa_and, Nat.and_zero]
      rw [if_pos hyes]
      simp only [bA_s, gC_e d1, d_broken hq (r (18 + 5 * k)) (by omega), b2_s]
      by_cases hbr : r (14 + 5 * k) = 5 ∧ ¬ r (18 + 5 * k) = 0
      · rw [if_pos hbr, if_neg (by decide)]
        have hw : wOpen (r, rm, no, dr, op, ku) k = ((r, rm, no, dr, op, ku), 8) := by unfold wOpen; rw [if_neg hlk, if_pos hbr]
        rw [hw]
        exact ⟨I, rfl, ⟨⟨⟨a3, a4, a5, a6, a7, a8⟩, b1, b2, b3⟩, ⟨w3, w4, w5, w6, w7, w8⟩, o1, l1, l2⟩, fun x _ _ _ _ _ => rfl, rfl, rfl⟩
      · rw [if_neg hbr, if_pos rfl]
        have hNu : isNu 21 17 := by simp [isNu]
        have h100 : (100 : Int32) + nI k = nI (100 + k) := by rw [show (100 : Int32) = nI 100 by decide, nI_add]
        simp only [r16_1, bA_s, gD_e d1 0 (by decide), d3, c21, h100, c_add hNu l1 (by omega), r16_2, g16_3, va_up_ne I _ (show 16 ≠ 22 by decide), Nat.reduceAdd]
        generalize hI1 : va_up (va_up I 22 (upd (I 22) op.length (nI (100 + k)))) 21 (upd (I 21) 1 (nI (op.length + 1))) = I1
        have f1 : ∀ x, x ≠ 22 → x ≠ 21 → I1 x = I x := fun x h1 h2 => by rw [← hI1, va_up_ne _ _ h2, va_up_ne _ _ h1]
        have fA : I1 16 = I 16 := f1 16 (by decide) (by decide)
        have fq : I1 q = I q := f1 q n4 n3
        simp only [fA, w3, fq, d3, t23 op.length (nI k) (by omega), bA_s, g16_3, gD_e d1 0 (by decide)]
        generalize hI2 : va_up I1 23 (upd (I1 23) op.length (nI k)) = I2
        have f2 : ∀ x, x ≠ 23 → I2 x = I1 x := fun x h1 => by rw [← hI2, va_up_ne _ _ h1]
        have f2A : I2 16 = I 16 := by rw [f2 16 (by decide), fA]
        have f2q : I2 q = I q := by rw [f2 q n5, fq]
        simp only [f2A, w3, z_i2, p16_3, bA_s, g16_4, gD_e d1 0 (by decide), va_up_self, va_up_ne I2 _ n1, f2q, d3, pk_un (show 4 ≠ 3 by decide), w4, sh1 k (by omega), fa_or, p16_4, g16_8, p16_8]
        have dr5 := d_loud (D := D) (Z := Z) (hq.keep (I' := va_up (va_up (va_up I2 16 (upd (I 16) 3 (nI (op.length + 1)))) 16 (upd (upd (I 16) 3 (nI (op.length + 1))) 4 (nI (obits op ||| 2 ^ k)))) 16 (upd (upd (upd (I 16) 3 (nI (op.length + 1))) 4 (nI (obits op ||| 2 ^ k))) 8 (nI (ku ||| keyN r k)))) (by rw [va_up_ne _ _ n1, va_up_ne _ _ n1, va_up_ne _ _ n1, f2q])) u5 (by omega)
        simp only [pk_un (show 8 ≠ 4 by decide), pk_un (show 8 ≠ 3 by decide), w8, fa_or, gC_e d1, bA_s, g16_6, va_up_self, dr5, b2_s, pk_un (show 6 ≠ 8 by decide), pk_un (show 6 ≠ 4 by decide), pk_un (show 6 ≠ 3 by decide), w6, nI_add, p16_6, g16_7, pk_un (show 7 ≠ 6 by decide), pk_un (show 7 ≠ 8 by decide), pk_un (show 7 ≠ 4 by decide), pk_un (show 7 ≠ 3 by decide), w7]
        simp only [bx_uu]
        generalize hR : upd (upd (upd (upd (I 16) 3 (nI (op.length + 1))) 4 (nI (obits op ||| 2 ^ k))) 8 (nI (ku ||| keyN r k))) 6 (nI (no + loudN r k)) = R3
        generalize hI3 : va_up I2 16 R3 = I3
        have f3 : ∀ x, x ≠ 16 → I3 x = I2 x := fun x h1 => by rw [← hI3, va_up_ne _ _ h1]
        have f3A : I3 16 = R3 := by rw [← hI3, va_up_self]
        have f3q : I3 q = I q := by rw [f3 q n1, f2q]
        simp only [d_gap (D := D) (Z := Z) (hq.keep (I' := I3) f3q), b2_s, nI_add, p16_7, bA_s, r16_0, r17_1, gD_e d1 0 (by decide), f3A]
        generalize hI4 : va_up I3 16 (upd R3 7 (nI (dr + gapN r k))) = I4
        have f4 : ∀ x, x ≠ 16 → I4 x = I2 x := fun x h1 => by rw [← hI4, va_up_ne _ _ h1, f3 x h1]
        have f4A : I4 16 = upd R3 7 (nI (dr + gapN r k)) := by rw [← hI4, va_up_self]
        have f4q : I4 q = I q := by rw [f4 q n1, f2q]
        simp only [f4q, d3, t19 k (nI (r (18 + 5 * k) + 1)) (by omega), bA_s, r16_0, g16_6, g16_7, g17_6, g17_5]
        generalize hI5 : va_up I4 19 (upd (I4 19) k (nI (r (18 + 5 * k) + 1))) = I5
        have f5 : ∀ x, x ≠ 19 → I5 x = I4 x := fun x h1 => by rw [← hI5, va_up_ne _ _ h1]
        have f5A : I5 16 = upd R3 7 (nI (dr + gapN r k)) := by rw [f5 16 (by decide), f4A]
        have f5H : I5 17 = I 17 := by rw [f5 17 (by decide), f4 17 (by decide), f2 17 (by decide), f1 17 (by decide) (by decide)]
        have f5W : I5 18 = I 18 := by rw [f5 18 (by decide), f4 18 (by decide), f2 18 (by decide), f1 18 (by decide) (by decide)]
        have f4w : I4 19 = I 19 := by rw [f4 19 (by decide), f2 19 (by decide), f1 19 (by decide) (by decide)]
        have f5w : I5 19 = upd (I 19) k (nI (r (18 + 5 * k) + 1)) := by rw [← hI5, va_up_self, f4w]
        have f57 : I5 23 = upd (I 23) op.length (nI k) := by rw [f5 23 (by decide), f4 23 (by decide), ← hI2, va_up_self, f1 23 (by decide) (by decide)]
        have f55 : I5 21 = upd (I 21) 1 (nI (op.length + 1)) := by rw [f5 21 (by decide), f4 21 (by decide), f2 21 (by decide), ← hI1, va_up_self]
        have f56 : I5 22 = upd (I 22) op.length (nI (100 + k)) := by rw [f5 22 (by decide), f4 22 (by decide), f2 22 (by decide), ← hI1, va_up_ne _ _ (by decide), va_up_self]
        have f5q : ∀ x, 177 ≤ x → I5 x = I x := fun x hx => by rw [f5 x (by omega), f4 x (by omega), f2 x (by omega), f1 x (by omega) (by omega)]
        have v6' : R3 6 = nI (no + loudN r k) := by rw [← hR, pk_us]
        have v3' : R3 3 = nI (op.length + 1) := by rw [← hR, pk_un (by decide), pk_un (by decide), pk_un (by decide), pk_us]
        have v4' : R3 4 = nI (obits op ||| 2 ^ k) := by rw [← hR, pk_un (by decide), pk_un (by decide), pk_us]
        have v8' : R3 8 = nI (ku ||| keyN r k) := by rw [← hR, pk_un (by decide), pk_us]
        have v5' : R3 5 = nI rm := by rw [← hR, pk_un (by decide), pk_un (by decide), pk_un (by decide), pk_un (by decide), w5]
        have v9' : R3 9 = I 16 9 := by rw [← hR, pk_un (by decide), pk_un (by decide), pk_un (by decide), pk_un (by decide)]
        have v10' : R3 10 = I 16 10 := by rw [← hR, pk_un (by decide), pk_un (by decide), pk_un (by decide), pk_un (by decide)]
        have hloud : loudN r k ≤ 6000 := by
          unfold loudN
          split
          · omega
          · split
            · omega
            · split <;> omega
        have hgap : gapN r k ≤ 2 := by
          unfold gapN
          split
          · omega
          · split <;> omega
        simp only [f5A, f5H, pk_us, pk_un (show 6 ≠ 7 by decide), v6', a6, a5]
        simp only [z_le (show no + loudN r k < 2 ^ 31 by omega) (show r 3 < 2 ^ 31 by omega), z_le (show dr + gapN r k < 2 ^ 31 by omega) (show r 2 < 2 ^ 31 by omega)]
        have hw : wOpen (r, rm, no, dr, op, ku) k = (opened (r, rm, no, dr, op, ku) k, if r 3 < no + loudN r k then 9 else if r 2 < dr + gapN r k then 10 else 0) := by unfold wOpen; rw [if_neg hlk, if_neg hbr]
        rw [hw]
        refine ⟨I5, ?_, ?_, ?_, ?_, ?_⟩
        · by_cases c1 : no + loudN r k ≤ r 3
          · rw [if_pos c1]
            by_cases c2 : dr + gapN r k ≤ r 2
            · rw [if_pos c2]; simp only [bA_s, if_neg (show ¬ r 3 < no + loudN r k by omega), if_neg (show ¬ r 2 < dr + gapN r k by omega)]; rfl
            · rw [if_neg c2]; simp only [bA_s, if_neg (show ¬ r 3 < no + loudN r k by omega), if_pos (show r 2 < dr + gapN r k by omega)]; rfl
          · rw [if_neg c1]; simp only [if_pos (show r 3 < no + loudN r k by omega)]; rfl
        · have o0 : ∀ j, j < 14 → (opened (r, rm, no, dr, op, ku) k).1 j = r j := fun j hj => uN_n _ (by omega)
          have o1' : ∀ j w, w < 4 → (opened (r, rm, no, dr, op, ku) k).1 (14 + w + 5 * j) = r (14 + w + 5 * j) := fun j w hw' => uN_n _ (by omega)
          refine ⟨⟨⟨?_, ?_, ?_, ?_, ?_, ?_⟩, ?_, ?_, ?_⟩, ⟨?_, ?_, ?_, ?_, ?_, ?_⟩, ?_, ?_, ?_⟩
          · rw [f5H, o0 1 (by decide)]; exact a3
          · rw [f5H, o0 0 (by decide)]; exact a4
          · rw [f5H, o0 2 (by decide)]; exact a5
          · rw [f5H, o0 3 (by decide)]; exact a6
          · rw [f5H, o0 4 (by decide)]; exact a7
          · rw [f5H, o0 5 (by decide)]; exact a8
          · intro j hj
            rw [o0 1 (by decide)] at hj
            rw [f5W, o0 (6 + j) (by omega)]; exact b1 j hj
          · intro j hj
            rw [o0 0 (by decide)] at hj
            rw [f5w]
            show upd (I 19) k (nI (r (18 + 5 * k) + 1)) j = nI (uN r (18 + 5 * k) (r (18 + 5 * k) + 1) (18 + 5 * j))
            by_cases hjk : j = k
            · subst hjk; rw [pk_us, uN_s]
            · rw [pk_un hjk, uN_n _ (by omega)]; exact b2 j hj
          · intro j hj
            rw [o0 0 (by decide)] at hj
            obtain ⟨q2, hq2, hdr⟩ := b3 j hj
            refine ⟨q2, hq2, ?_⟩
            have c0 := o1' j 0 (by decide)
            have c1 := o1' j 1 (by decide)
            have c2 := o1' j 2 (by decide)
            have c3 := o1' j 3 (by decide)
            simp only [Nat.add_zero, Nat.reduceAdd] at c0 c1 c2 c3
            obtain ⟨e1, e2, e3, e4, e5, e6⟩ := hdr
            have ee := f5q q2 e1.1
            exact ⟨e1, by rw [c0]; exact e2, by rw [ee]; exact e3, by rw [ee, c1]; exact e4, by rw [ee, c2]; exact e5, by rw [ee, c3]; exact e6⟩
          · rw [f5A, pk_un (by decide), v3']; show _ = nI (op ++ [k]).length; rw [List.length_append]; rfl
          · rw [f5A, pk_un (by decide), v4']; show _ = nI (obits (op ++ [k])); rw [obits_app]
          · rw [f5A, pk_un (by decide), v5']; rfl
          · rw [f5A, pk_un (by decide), v6']; rfl
          · rw [f5A, pk_us]; rfl
          · rw [f5A, pk_un (by decide), v8']; rfl
          · intro i hi
            have hi : i < (op ++ [k]).length := hi
            rw [List.length_append] at hi
            simp only [List.length_cons, List.length_nil] at hi
            show I5 23 i = nI ((op ++ [k]).getD i 0)
            rw [f57]
            by_cases hio : i = op.length
            · subst hio; rw [pk_us, getD_app_eq]
            · rw [pk_un hio, getD_app_lt (by omega)]; exact o1 i (by omega)
          · show I5 21 1 = nI (op ++ [k]).length
            rw [f55, pk_us, List.length_append]; rfl
          · intro i hi
            have hi : i < (op ++ [k]).length := hi
            rw [List.length_append] at hi
            simp only [List.length_cons, List.length_nil] at hi
            show I5 22 i = nI (100 + (op ++ [k]).getD i 0)
            rw [f56]
            by_cases hio : i = op.length
            · subst hio; rw [pk_us, getD_app_eq]
            · rw [pk_un hio, getD_app_lt (by omega)]; exact l2 i (by omega)
        · intro x h1 h2 h3 h4 h5
          rw [f5 x h2, f4 x h1, f2 x h5, f1 x h4 h3]
        · rw [f5A, pk_un (by decide), v9']
        · rw [f5A, pk_un (by decide), v10']
end WalkC
