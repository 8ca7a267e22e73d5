section Sets2
variable {I : Nat → Nat → Int32} {D : Nat → Nat → Option Nat} {K : Nat → Nat} {n N : Nat} {Z : Nat → Cl} {r : Ro}
theorem sF_all (hw : wf r N) (v : Nat) (t : Nat × Nat × Nat) : sF (sP r v) 256 0 t = sF (sP r v) (2 ^ r 1) 0 t := by
  have r18 := hw.le8.1
  have hp : 2 ^ r 1 ≤ 256 := Nat.le_trans (Nat.pow_le_pow_right (by decide) r18) (by decide)
  obtain ⟨e, he⟩ : ∃ e, 256 = 2 ^ r 1 + e := ⟨256 - 2 ^ r 1, by omega⟩
  rw [he, sF_app]
  refine sF_skip _ _ _ _ (fun k a b => ?_)
  unfold sP
  rw [decide_eq_false (sub_big (filN_lt r (r 1)) (by omega))]
  rfl
theorem sF_zero (P : Nat → Bool) : ∀ (c j : Nat) (t : Nat × Nat × Nat), t.1 = 0 → t.2.1 = 0 → (sF P c j t).1 = 0 → (sF P c j t).2.1 = 0
  | 0, _, _, _, h, _ => h
  | c + 1, j, t, h0, h, hf => by
    rw [sF] at hf ⊢
    by_cases p : P j = true
    · rw [if_pos p] at hf
      exfalso
      have key : ∀ (c j : Nat) (t : Nat × Nat × Nat), 0 < t.1 → 0 < (sF P c j t).1 := by
        intro c
        induction c with
        | zero => intro j t ht; exact ht
        | succ c ih =>
          intro j t ht
          rw [sF]
          by_cases q : P j = true
          · rw [if_pos q]; exact ih _ _ (by show 0 < t.1 + 1; omega)
          · rw [if_neg q]; exact ih _ _ ht
      have := key c (j + 1) (t.1 + 1, (if t.1 = 0 then j else t.2.1 &&& j), t.2.2 ||| j) (by show 0 < t.1 + 1; omega)
      omega
    · rw [if_neg p] at hf ⊢
      exact sF_zero P c (j + 1) t h0 h hf
theorem k_sets_b (h : Inv I D K n N) (hc : CH I D K n 9 r) (hM : MH (I 166) r) (r18 : r 1 ≤ 8) (hz : ¬ r 1 = 0) (x w : Int32) (hb : ¬ (((0 : Int) ≤ x.toInt ∧ x.toInt ≤ (160 : Nat)) ∧ ((0 : Int) ≤ w.toInt ∧ w.toInt ≤ (2 : Nat)))) : GD Z N (enc I D K n Z) (fun h => f_X11_sets h 0 x w) (fun h => f_X12_sets h 162 x w) := by
  have hM' := thr_M (show 166 ≠ 162 by decide) hM
  have hi1 : ∀ h : Hp, f_X12_in h x.toInt64 (0 : Int64) (160 : Int64) = some (if (0 : Int) ≤ x.toInt ∧ x.toInt ≤ (160 : Nat) then 1 else 0, h) := fun h => in02 h x 160 (by decide) (by decide)
  have hi3 : ∀ h : Hp, f_X12_in h w.toInt64 (0 : Int64) (2 : Int64) = some (if (0 : Int) ≤ w.toInt ∧ w.toInt ≤ (2 : Nat) then 1 else 0, h) := fun h => in02 h w 2 (by decide) (by decide)
  refine ⟨-1000001, enc I D K n Z, _, D, K, n, ?_, ?_, h.thr⟩
  · by_cases h1 : (0 : Int) ≤ x.toInt ∧ x.toInt ≤ (160 : Nat)
    · obtain ⟨a1, a2⟩ := yesUb (show 160 < 2 ^ 31 by decide) h1
      have a2 : ¬ (160 : Int32) < x := a2
      have h3 : ¬ ((0 : Int) ≤ w.toInt ∧ w.toInt ≤ (2 : Nat)) := fun q => hb ⟨h1, q⟩
      have e : ∀ (a c : Option (Int32 × Hp)), (if w < 0 then a else if w ≤ (2 : Int32) then c else a) = a := not0b (show 2 < 2 ^ 31 by decide) h3
      simp only [f_X11_sets, r0_3, bA_s, c9, c_stands9 h9 hc.1.1 r18, b2_s, if_neg hz, if_neg one0, if_neg a1, if_neg a2, e]
    · have e : ∀ (a c : Option (Int32 × Hp)), (if x < 0 then a else if (160 : Int32) < x then a else c) = a := notUb (show 160 < 2 ^ 31 by decide) h1
      simp only [f_X11_sets, r0_3, bA_s, c9, c_stands9 h9 hc.1.1 r18, b2_s, if_neg hz, if_neg one0, e]
  · by_cases h1 : (0 : Int) ≤ x.toInt ∧ x.toInt ≤ (160 : Nat)
    · have h3 : ¬ ((0 : Int) ≤ w.toInt ∧ w.toInt ≤ (2 : Nat)) := fun q => hb ⟨h1, q⟩
      simp only [f_X12_sets, p_thr, bA_s, c162, m_isThere hM' r18, b2_s, if_neg hz, if_neg one0, hi1, if_pos h1, hi3, if_neg h3, if_true]
    · simp only [f_X12_sets, p_thr, bA_s, c162, m_isThere hM' r18, b2_s, if_neg hz, if_neg one0, hi1, if_neg h1, if_true]
theorem k_sets (h : Inv I D K n N) (x w : Int32) : GD Z N (enc I D K n Z) (fun h => f_X11_sets h 0 x w) (fun h => f_X12_sets h 162 x w) := by
  obtain ⟨r, hc, hM, hw⟩ := h.2.2.1
  obtain ⟨r18, r08⟩ := ho8 hw
  have hM' := thr_M (show 166 ≠ 162 by decide) hM
  by_cases hz : r 1 = 0
  · refine ⟨-1000002, enc I D K n Z, _, D, K, n, ?_, ?_, h.thr⟩
    · simp only [f_X11_sets, r0_3, bA_s, c9, c_stands9 h9 hc.1.1 r18, b2_s, if_pos hz, if_true]
    · simp only [f_X12_sets, p_thr, bA_s, c162, m_isThere hM' r18, b2_s, if_pos hz, if_true]
  · have hwf := st_wf hw hz
    by_cases hb : ((0 : Int) ≤ x.toInt ∧ x.toInt ≤ (160 : Nat)) ∧ ((0 : Int) ≤ w.toInt ∧ w.toInt ≤ (2 : Nat))
    · obtain ⟨h1, h3⟩ := hb
      have hi1 : ∀ h : Hp, f_X12_in h x.toInt64 (0 : Int64) (160 : Int64) = some (if (0 : Int) ≤ x.toInt ∧ x.toInt ≤ (160 : Nat) then 1 else 0, h) := fun h => in02 h x 160 (by decide) (by decide)
      have hi3 : ∀ h : Hp, f_X12_in h w.toInt64 (0 : Int64) (2 : Int64) = some (if (0 : Int) ≤ w.toInt ∧ w.toInt ≤ (2 : Nat) then 1 else 0, h) := fun h => in02 h w 2 (by decide) (by decide)
      obtain ⟨a1, a2⟩ := yesUb (show 160 < 2 ^ 31 by decide) h1
      have a2 : ¬ (160 : Int32) < x := a2
      obtain ⟨w0, w2⟩ := yes0b (show 2 < 2 ^ 31 by decide) h3
      have w2 : w ≤ (2 : Int32) := w2
      obtain ⟨v, hv, rfl⟩ := (ix_in (x := x) (m := 161) (by decide)).mp ⟨h1.1, by omega⟩
      have hp : 2 ^ r 1 ≤ 256 := Nat.le_trans (Nat.pow_le_pow_right (by decide) r18) (by decide)
      have cl := c_sets_L (Z := Z) hc hwf (show v ≤ 160 by omega) w (fun y49 y50 y51 y52 h48 => (if w = 0 then some (y49, h48) else (if w = (2 : Int32) then some (y51, h48) else bA (if y49 = 0 then some (0 : Int32) else some y50) fun j56 => some (j56, h48)))) 256 2000 0 (0, 0, 0) (by omega) (by omega) (by decide)
      have ml := m_sets_L (D := D) (K := K) (n := n) (Z := Z) hM' hwf (show v ≤ 160 by omega) w (fun y92 y93 y94 y95 h91 => bA (if w = 0 then some y92 else (if w = (1 : Int32) then some y93 else some y94)) fun j97 => some (j97, h91)) (2 ^ r 1) 2000 0 (0, 0, 0) (by omega) (by omega) (by show 0 + 2 ^ r 1 < 2000; omega)
      rw [sF_all hwf] at cl
      have sz := sF_zero (sP r v) (2 ^ r 1) 0 (0, 0, 0) rfl rfl
      have sb : (sF (sP r v) (2 ^ r 1) 0 (0, 0, 0)).1 ≤ 256 := by
        have key : ∀ (c j : Nat) (t : Nat × Nat × Nat), (sF (sP r v) c j t).1 ≤ t.1 + c := by
          intro c
          induction c with
          | zero => intro j t; exact Nat.le_refl _
          | succ c ih =>
            intro j t
            rw [sF]
            have q := ih (j + 1) (if sP r v j = true then (t.1 + 1, (if t.1 = 0 then j else t.2.1 &&& j), t.2.2 ||| j) else t)
            by_cases p : sP r v j = true
            · rw [if_pos p] at q ⊢
              have q : _ ≤ t.1 + 1 + c := q
              omega
            · rw [if_neg p] at q ⊢; omega
        have q : _ ≤ 0 + 2 ^ r 1 := key (2 ^ r 1) 0 (0, 0, 0)
        omega
      generalize sF (sP r v) (2 ^ r 1) 0 (0, 0, 0) = t at cl ml sz sb
      have et : (nI t.1 = (0 : Int32)) = (t.1 = 0) := z_eq (by omega) (by decide)
      have cl : f_X11_sets_L56 (fun y49 y50 y51 y52 h48 => (if w = 0 then some (y49, h48) else (if w = (2 : Int32) then some (y51, h48) else bA (if y49 = 0 then some (0 : Int32) else some y50) fun j56 => some (j56, h48)))) 0 (nI v) w (nI (filN r (r 1))) 2000 (enc I D K n Z) (0 : Int32) (nI (filN r (r 1))) (0 : Int32) (0 : Int32) = (if w = 0 then some (nI t.1, enc I D K n Z) else (if w = (2 : Int32) then some (nI t.2.2, enc I D K n Z) else bA (if nI t.1 = 0 then some (0 : Int32) else some (nI (if t.1 = 0 then filN r (r 1) else t.2.1))) fun j56 => some (j56, enc I D K n Z))) := cl
      have ml : f_X12_sets_L53 (fun y92 y93 y94 y95 h91 => bA (if w = 0 then some y92 else (if w = (1 : Int32) then some y93 else some y94)) fun j97 => some (j97, h91)) 162 (nI v) w 2000 (enc (thr I) D K n Z) (0 : Int32) (0 : Int32) (0 : Int32) (0 : Int32) = bA (if w = 0 then some (nI t.1) else (if w = (1 : Int32) then some (nI t.2.1) else some (nI t.2.2))) fun j97 => some (j97, enc (thr I) D K n Z) := ml
      obtain ⟨ww, hww, rfl⟩ := (ix_in (x := w) (m := 3) (by decide)).mp ⟨h3.1, by omega⟩
      have e0 : (nI ww = (0 : Int32)) = (ww = 0) := z_eq (by omega) (by decide)
      have e1 : (nI ww = (1 : Int32)) = (ww = 1) := z_eq (m := 1) (by omega) (by decide)
      have e2 : (nI ww = (2 : Int32)) = (ww = 2) := z_eq (m := 2) (by omega) (by decide)
      refine ⟨if ww = 0 then nI t.1 else if ww = 1 then nI t.2.1 else nI t.2.2, enc I D K n Z, _, D, K, n, ?_, ?_, h.thr⟩
      · simp only [f_X11_sets, r0_3, bA_s, c9, c_stands9 h9 hc.1.1 r18, b2_s, if_neg hz, if_neg one0, if_neg a1, if_neg a2, if_neg w0, if_pos w2, c_fil hc hwf]
        rw [cl]
        simp only [e0, e2, et]
        rcases (show ww = 0 ∨ ww = 1 ∨ ww = 2 by omega) with rfl | rfl | rfl
        · rfl
        · by_cases z : t.1 = 0
          · simp only [if_pos z, bA_s, if_neg (show ¬ 1 = 0 by decide), if_neg (show ¬ 1 = 2 by decide), if_true]
            rw [sz z]; rfl
          · simp only [if_neg z, bA_s, if_neg (show ¬ 1 = 0 by decide), if_neg (show ¬ 1 = 2 by decide), if_true]
        · rfl
      · simp only [f_X12_sets, p_thr, bA_s, c162, m_isThere hM' r18, b2_s, if_neg hz, if_neg one0, hi1, if_pos h1, hi3, if_pos h3]
        rw [ml]
        simp only [e0, e1]
        rcases (show ww = 0 ∨ ww = 1 ∨ ww = 2 by omega) with rfl | rfl | rfl <;> rfl
    · exact k_sets_b h hc hM r18 hz x w hb
end Sets2
