/-! THE CALL share -/
def shL (x2 x3 : Int32) (r : Ro) (room : Nat) : Nat → Nat → Int32 → Nat → Int32 × Nat
  | 0, _, o, f => (o, f)
  | c + 1, j, o, f => shL x2 x3 r room c (j + 1) (o - ((x2 * nI (r (6 + j))) / x3)) (if j < room ∧ ¬ r (6 + j) = 0 then f + 1 else f)
theorem wsum_ge (r : Ro) : ∀ (k i : Nat), i < k → r (6 + i) ≤ wsum r k
  | 0, i, h => by omega
  | k + 1, i, h => by
    rw [wsum]
    by_cases e : i = k
    · subst e; omega
    · have := wsum_ge r k i (by omega); omega
theorem wsum_le {r : Ro} {N : Nat} (hw : wf r N) : ∀ k, k ≤ 8 → wsum r k ≤ 20 * k
  | 0, _ => by simp [wsum]
  | k + 1, h => by
    have q := wsum_le hw k (by omega)
    have q2 := hw.2.2.2.2.2.1 k (by omega)
    rw [wsum]; omega
section Share
variable {I : Nat → Nat → Int32} {D : Nat → Nat → Option Nat} {K : Nat → Nat} {n N : Nat} {Z : Nat → Cl} {r : Ro}
theorem c_sh_L (hc : CH I D K n 9 r) (hw : wf r N) {room : Nat} (hr : room < 8) (x2 x3 : Int32) (h3 : ¬ x3 = 0) {β : Type} (kk : Int32 → Int32 → Int32 → Hp → Option β) : ∀ (c fuel j : Nat) (o : Int32) (g : Nat), j + c = r 1 → c < fuel → f_X11_share_L60 kk 0 (nI room) x2 x3 fuel (enc I D K n Z) o (nI g) (nI j) = kk (shL x2 x3 r room c j o g).1 (nI (shL x2 x3 r room c j o g).2) (nI (r 1)) (enc I D K n Z) := by
  have r18 := hw.le8.1
  intro c
  induction c with
  | zero =>
    intro fuel j o g hj hf
    obtain ⟨f, rfl⟩ : ∃ f, fuel = f + 1 := ⟨fuel - 1, by omega⟩
    have e : j = r 1 := by omega
    subst e
    rw [f_X11_share_L60, r0_3, bA_s, g9_3, bA_s, hc.1.1, if_pos (nI_le (Nat.le_refl _) (by omega)), shL]
  | succ c ih =>
    intro fuel j o g hj hf
    obtain ⟨f, rfl⟩ : ∃ f, fuel = f + 1 := ⟨fuel - 1, by omega⟩
    have l : ald (enc I D K n Z) 10 0 (nI j) = some (nI (r (6 + j))) := by
      rw [← hc.2.1 j (by omega)]; exact ald_n (s_H1 h9) j (by omega) (by decide)
    have h6 := hw.2.2.2.2.2.1 j (by omega)
    have ew : (nI (r (6 + j)) = (0 : Int32)) = (r (6 + j) = 0) := z_eq (by omega) (by decide)
    have el : (nI room ≤ nI j) = (room ≤ j) := z_le (by omega) (by omega)
    have nz : nzI x3 = some () := by unfold nzI; rw [if_neg h3]
    rw [f_X11_share_L60, r0_3, bA_s, g9_3, bA_s, hc.1.1, if_neg (nI_ge (show j < r 1 by omega) (by omega)), bA_s, r9_0, bA_s, l, bA_s, nz, bA_s, shL]
    rw [← ih f (j + 1) _ _ (by omega) (by omega)]
    simp only [el, bA_s, r9_0, l, ew, z_i2]
    by_cases a : room ≤ j
    · simp only [if_pos a, bA_s, if_neg (show ¬ (j < room ∧ ¬ r (6 + j) = 0) by omega)]
    · simp only [if_neg a]
      by_cases b : r (6 + j) = 0
      · simp only [if_pos b, bA_s, if_neg (show ¬ (j < room ∧ ¬ r (6 + j) = 0) from fun z => z.2 b)]
      · simp only [if_neg b, bA_s, if_pos (show j < room ∧ ¬ r (6 + j) = 0 from ⟨by omega, b⟩)]
theorem m_sh_L {J : Nat → Nat → Int32} (hM : MH (J 166) r) (hw : wf r N) {room : Nat} (hr : room < 8) (x2 x3 x4 : Int32) (h3 : ¬ x3 = 0) {β : Type} (kk : Int32 → Int32 → Int32 → Hp → Option β) : ∀ (c fuel j : Nat) (o : Int32) (g : Nat), j + c = r 1 → c < fuel → f_X12_share_L63 kk 162 (nI room) x2 x3 x4 fuel (enc J D K n Z) o (nI g) (nI j) = kk (shL x2 x3 r room c j o g).1 (nI (shL x2 x3 r room c j o g).2) (nI (r 1)) (enc J D K n Z) := by
  have r18 := hw.le8.1
  have l1 : ald (enc J D K n Z) 166 0 (1 : Int32) = some (nI (r 1)) := by
    have z := ald_n (I := J) (D := D) (K := K) (n := n) (Z := Z) s_166 1 (by decide) (by decide)
    rw [hM 1 (by decide)] at z
    exact z
  intro c
  induction c with
  | zero =>
    intro fuel j o g hj hf
    obtain ⟨f, rfl⟩ : ∃ f, fuel = f + 1 := ⟨fuel - 1, by omega⟩
    have e : j = r 1 := by omega
    subst e
    rw [f_X12_share_L63, r162_5, bA_s, l1, bA_s, if_pos (nI_le (Nat.le_refl _) (by omega)), shL]
  | succ c ih =>
    intro fuel j o g hj hf
    obtain ⟨f, rfl⟩ : ∃ f, fuel = f + 1 := ⟨fuel - 1, by omega⟩
    have e6 : (6 : Int32) + nI j = nI (6 + j) := nI_add 6 j
    have lw : ald (enc J D K n Z) 166 0 (nI (6 + j)) = some (nI (r (6 + j))) := by
      have z := ald_n (I := J) (D := D) (K := K) (n := n) (Z := Z) s_166 (6 + j) (by omega) (by decide)
      rw [hM _ (by omega)] at z
      exact z
    have h6 := hw.2.2.2.2.2.1 j (by omega)
    have ew : (nI (r (6 + j)) ≤ (0 : Int32)) = (r (6 + j) ≤ 0) := z_le (m := 0) (by omega) (by decide)
    have el : (nI room ≤ nI j) = (room ≤ j) := z_le (by omega) (by omega)
    have nz : nzI x3 = some () := by unfold nzI; rw [if_neg h3]
    rw [f_X12_share_L63, r162_5, bA_s, l1, bA_s, if_neg (nI_ge (show j < r 1 by omega) (by omega)), bA_s, e6, lw, bA_s, nz, bA_s, bA_s, shL]
    rw [← ih f (j + 1) _ _ (by omega) (by omega)]
    have g0 : nI g + (0 : Int32) = nI g := nI_add g 0
    simp only [el, bA_s, lw, ew, z_i2]
    by_cases a : room ≤ j
    · simp only [if_pos a, bA_s, g0, if_neg (show ¬ (j < room ∧ ¬ r (6 + j) = 0) by omega)]
    · simp only [if_neg a]
      by_cases b : r (6 + j) = 0
      · simp only [if_pos (show r (6 + j) ≤ 0 by omega), bA_s, g0, if_neg (show ¬ (j < room ∧ ¬ r (6 + j) = 0) from fun z => z.2 b)]
      · simp only [if_neg (show ¬ r (6 + j) ≤ 0 by omega), bA_s, z_i2, if_pos (show j < room ∧ ¬ r (6 + j) = 0 from ⟨by omega, b⟩)]
theorem k_share (h : Inv I D K n N) (x w : Int32) : GD Z N (enc I D K n Z) (fun h => f_X11_share h 0 x w) (fun h => f_X12_share h 162 x w) := by
  obtain ⟨r, hc, hM, hw⟩ := h.2.2.1
  obtain ⟨r18, r08⟩ := ho8 hw
  have hM' := thr_M (show 166 ≠ 162 by decide) hM
  have hi : ∀ h : Hp, f_X12_in h w.toInt64 (0 : Int64) (999 : Int64) = some (if (0 : Int) ≤ w.toInt ∧ w.toInt ≤ (999 : Nat) then 1 else 0, h) := fun h => in02 h w 999 (by decide) (by decide)
  by_cases hx : 0 ≤ x.toInt ∧ x.toInt < r 1
  · by_cases hww : (0 : Int) ≤ w.toInt ∧ w.toInt ≤ (999 : Nat)
    · obtain ⟨w0, w9⟩ := yes0b (show 999 < 2 ^ 31 by decide) hww
      have w9 : w ≤ (999 : Int32) := w9
      obtain ⟨rm, hrm, rfl⟩ := (ix_in (m := r 1) (by omega)).mp hx
      have hwf := rm_wf hw hrm
      have hge := wsum_ge r (r 1) rm hrm
      have hle := wsum_le hwf (r 1) r18
      have h6 := hwf.2.2.2.2.2.1 rm (by omega)
      have e6 : (6 : Int32) + nI rm = nI (6 + rm) := nI_add 6 rm
      have lc : ald (enc I D K n Z) 10 0 (nI rm) = some (nI (r (6 + rm))) := by
        rw [← hc.2.1 rm hrm]; exact ald_n (s_H1 h9) rm (by omega) (by decide)
      have lm : ald (enc (thr I) D K n Z) 166 0 (nI (6 + rm)) = some (nI (r (6 + rm))) := by
        have z := ald_n (I := thr I) (D := D) (K := K) (n := n) (Z := Z) s_166 (6 + rm) (by omega) (by decide)
        rw [hM' _ (by omega)] at z
        exact z
      have es : (nI (wsum r (r 1)) = (0 : Int32)) = (wsum r (r 1) = 0) := z_eq (by omega) (by decide)
      have eo : (nI (r (6 + rm)) = (0 : Int32)) = (r (6 + rm) = 0) := z_eq (by omega) (by decide)
      by_cases z : r (6 + rm) = 0
      · refine ⟨0, enc I D K n Z, _, D, K, n, ?_, ?_, h.thr⟩
        · simp only [f_X11_share, r0_3, bA_s, c9, c_lacksRoom h9 r18 hc.1.1, b2_s, if_pos hx, if_true, if_neg w0, if_pos w9, c_woa h9 hc r18, es]
          by_cases y : wsum r (r 1) = 0
          · simp only [if_pos y]
          · simp only [if_neg y, r0_3, bA_s, r9_0, lc, eo, if_pos z]
        · simp only [f_X12_share, p_thr, bA_s, c162, m_isRoom hM' r18, b2_s, if_pos hx, if_neg one0, hi, if_pos hww, r162_5, m_wof R166 hM' r18, e6, lm, eo, if_pos z]
      · have y : ¬ wsum r (r 1) = 0 := by omega
        have y' : ¬ nI (wsum r (r 1)) = 0 := fun q => y (es.mp q)
        have nz : nzI (nI (wsum r (r 1))) = some () := by unfold nzI; rw [if_neg y']
        have cl := c_sh_L (Z := Z) hc hwf (show rm < 8 by omega) w (nI (wsum r (r 1))) y' (fun y59 y60 y61 h58 => bA (gN h58 0 10 3) fun a63 => bA (gN h58 a63 2 0) fun a65 => bA (ald h58 a65 0 (nI rm)) fun v66 => bA (nzI (nI (wsum r (r 1)))) fun u69 => bA (if y59 ≤ y60 then some ((w * v66) / (nI (wsum r (r 1)))) else some (((w * v66) / (nI (wsum r (r 1)))) + (1 : Int32))) fun j71 => some (j71, h58)) (r 1) 2000 0 w 0 (by omega) (by omega)
        have ml := m_sh_L (D := D) (K := K) (n := n) (Z := Z) hM' hwf (show rm < 8 by omega) w (nI (wsum r (r 1))) (nI (r (6 + rm))) y' (fun y58 y59 y60 h57 => bA (nzI (nI (wsum r (r 1)))) fun u62 => bA (if y58 ≤ y59 then some (0 : Int32) else some (1 : Int32)) fun j64 => some ((((w * nI (r (6 + rm))) / nI (wsum r (r 1))) + j64), h57)) (r 1) 2000 0 w 0 (by omega) (by omega)
        rw [show nI 0 = (0 : Int32) by decide] at cl ml
        generalize shL w (nI (wsum r (r 1))) r rm (r 1) 0 w 0 = t at cl ml
        generalize hq : (w * nI (r (6 + rm))) / nI (wsum r (r 1)) = q at cl ml
        refine ⟨if t.1 ≤ nI t.2 then q else q + 1, enc I D K n Z, _, D, K, n, ?_, ?_, h.thr⟩
        · simp only [f_X11_share, r0_3, bA_s, c9, c_lacksRoom h9 r18 hc.1.1, b2_s, if_pos hx, if_true, if_neg w0, if_pos w9, c_woa h9 hc r18, if_neg y', r9_0, lc, if_neg (fun q => z (eo.mp q))]
          refine Eq.trans cl ?_
          simp only [r0_3, bA_s, r9_0, lc, nz, hq]
          by_cases c : t.1 ≤ nI t.2
          · rw [if_pos c, if_pos c, bA_s]
          · rw [if_neg c, if_neg c, bA_s]
        · simp only [f_X12_share, p_thr, bA_s, c162, m_isRoom hM' r18, b2_s, if_pos hx, if_neg one0, hi, if_pos hww, r162_5, m_wof R166 hM' r18, e6, lm, if_neg (fun q => z (eo.mp q))]
          rw [hq]
          refine Eq.trans ml ?_
          simp only [nz, bA_s]
          by_cases c : t.1 ≤ nI t.2
          · rw [if_pos c, if_pos c, bA_s, Int32.add_zero]
          · rw [if_neg c, if_neg c, bA_s]
    · have e : ∀ (a c : Option (Int32 × Hp)), (if w < 0 then a else if w ≤ (999 : Int32) then c else a) = a := not0b (show 999 < 2 ^ 31 by decide) hww
      refine ⟨-1000001, enc I D K n Z, _, D, K, n, ?_, ?_, h.thr⟩
      · simp only [f_X11_share, r0_3, bA_s, c9, c_lacksRoom h9 r18 hc.1.1, b2_s, if_pos hx, if_true, e]
      · simp only [f_X12_share, p_thr, bA_s, c162, m_isRoom hM' r18, b2_s, if_pos hx, if_neg one0, hi, if_neg hww, if_true]
  · refine ⟨-1000001, enc I D K n Z, _, D, K, n, ?_, ?_, h.thr⟩
    · simp only [f_X11_share, r0_3, bA_s, c9, c_lacksRoom h9 r18 hc.1.1, b2_s, if_neg hx, if_neg one0]
    · simp only [f_X12_share, p_thr, bA_s, c162, m_isRoom hM' r18, b2_s, if_neg hx, if_true]
end Share
