/-! THE CLASS READS A HOUSE -/
def pl1 (T : Nat → Nat) (t : Nat) : PS := pSg T t 104 (0, 0)
def pl2 (T : Nat → Nat) (t : Nat) : PS := pNm T t 1 9 (-1) (pl1 T t)
def pl3 (T : Nat → Nat) (t : Nat) : PS := pSg T t 44 (pl2 T t)
def pl4 (T : Nat → Nat) (t : Nat) : PS := pNm T t 1 60 (-1) (pl3 T t)
def pl5 (T : Nat → Nat) (t : Nat) : PS := pSg T t 44 (pl4 T t)
def pl6 (T : Nat → Nat) (t : Nat) : PS := pNm T t 0 63 (-1) (pl5 T t)
def pl7 (T : Nat → Nat) (t : Nat) : PS := pSg T t 59 (pl6 T t)
def lawR (T : Nat → Nat) (t : Nat) : Ro := fun j => if j = 2 then nvN T t (pl1 T t).1 else if j = 3 then nvN T t (pl3 T t).1 else if j = 4 then nvN T t (pl5 T t).1 else 0
theorem lawR_2 (T : Nat → Nat) (t : Nat) : lawR T t 2 = nvN T t (pl1 T t).1 := rfl
theorem lawR_3 (T : Nat → Nat) (t : Nat) : lawR T t 3 = nvN T t (pl3 T t).1 := rfl
theorem lawR_4 (T : Nat → Nat) (t : Nat) : lawR T t 4 = nvN T t (pl5 T t).1 := rfl
theorem lawR_o (T : Nat → Nat) (t : Nat) {j : Nat} (h2 : j ≠ 2) (h3 : j ≠ 3) (h4 : j ≠ 4) : lawR T t j = 0 := by
  unfold lawR; rw [if_neg h2, if_neg h3, if_neg h4]
abbrev PR : Type := PS × Ro
def rq0 (s : PS) (r : Ro) : PS := if 8 ≤ r 1 then pBd 3 s else s
def rq1 (T : Nat → Nat) (t : Nat) (s : PS) (r : Ro) : PS := pSg T t 114 (rq0 s r)
def rq2 (T : Nat → Nat) (t : Nat) (s : PS) (r : Ro) : PS := pNm T t 0 20 (-1) (rq1 T t s r)
def rq3 (T : Nat → Nat) (t : Nat) (s : PS) (r : Ro) : PS := pSg T t 59 (rq2 T t s r)
def addR (r : Ro) (w : Nat) : Ro := uN (uN r (6 + r 1) w) 1 (r 1 + 1)
def pRm (T : Nat → Nat) (t : Nat) (x : PR) : PR := (rq3 T t x.1 x.2, if (rq3 T t x.1 x.2).2 = 0 then addR x.2 (nvN T t (rq1 T t x.1 x.2).1) else x.2)
def pRl (T : Nat → Nat) (t : Nat) : Nat → PR → PR
  | 0, x => x
  | c + 1, x => if x.1.2 = 0 ∧ x.1.1 < t ∧ T x.1.1 = 114 then pRl T t c (pRm T t x) else x
def dr0 (s : PS) (r : Ro) : PS := if 8 ≤ r 0 then pBd 3 s else s
def dr1 (T : Nat → Nat) (t : Nat) (s : PS) (r : Ro) : PS := pSg T t (T s.1) (dr0 s r)
def dr2 (T : Nat → Nat) (t : Nat) (s : PS) (r : Ro) : PS := pNm T t 0 (r 1 - 1) (-1) (dr1 T t s r)
def dr3 (T : Nat → Nat) (t : Nat) (s : PS) (r : Ro) : PS := pSg T t 44 (dr2 T t s r)
def dr4 (T : Nat → Nat) (t : Nat) (s : PS) (r : Ro) : PS := pNm T t 0 (r 1 - 1) (nI (nvN T t (dr1 T t s r).1)) (dr3 T t s r)
def dr5 (T : Nat → Nat) (t : Nat) (s : PS) (r : Ro) : PS := pSg T t 44 (dr4 T t s r)
def dr6 (T : Nat → Nat) (t : Nat) (s : PS) (r : Ro) : PS := pNm T t 0 9 (-1) (dr5 T t s r)
def dr7 (T : Nat → Nat) (t : Nat) (s : PS) (r : Ro) : PS := pSg T t 59 (dr6 T t s r)
def addD (r : Ro) (k f b v : Nat) : Ro := uN (uN (uN (uN (uN (uN r (14 + 5 * r 0) k) (15 + 5 * r 0) f) (16 + 5 * r 0) b) (17 + 5 * r 0) v) (18 + 5 * r 0) 0) 0 (r 0 + 1)
def pDr (T : Nat → Nat) (t : Nat) (x : PR) : PR := (dr7 T t x.1 x.2, if (dr7 T t x.1 x.2).2 = 0 then addD x.2 (kb (T x.1.1)) (nvN T t (dr1 T t x.1 x.2).1) (nvN T t (dr3 T t x.1 x.2).1) (nvN T t (dr5 T t x.1 x.2).1) else x.2)
def pDl (T : Nat → Nat) (t : Nat) : Nat → PR → PR
  | 0, x => x
  | c + 1, x => if x.1.2 = 0 ∧ x.1.1 < t ∧ ¬ kb (T x.1.1) = 0 then pDl T t c (pDr T t x) else x
def pR1 (T : Nat → Nat) (t : Nat) : PR := pRl T t 9 (pl7 T t, lawR T t)
def pR2 (T : Nat → Nat) (t : Nat) : PR := (if (pR1 T t).2 1 < 2 then pBd 1 (pR1 T t).1 else (pR1 T t).1, (pR1 T t).2)
def pD1 (T : Nat → Nat) (t : Nat) : PR := pDl T t 9 (pR2 T t)
def pD2 (T : Nat → Nat) (t : Nat) : PS := if (pD1 T t).2 0 < 1 ∨ (pD1 T t).1.1 < t then pBd 1 (pD1 T t).1 else (pD1 T t).1
theorem kb_le (c : Nat) : kb c ≤ 5 := by
  unfold kb
  repeat' split
  all_goals omega
theorem addR_1 (r : Ro) (w : Nat) : addR r w 1 = r 1 + 1 := uN_s _ _ _
theorem addR_o {r : Ro} {w j : Nat} (h : j ≠ 1) (h2 : j ≠ 6 + r 1) : addR r w j = r j := by
  unfold addR; rw [uN_n _ h, uN_n _ h2]
theorem addR_w (r : Ro) (w : Nat) : addR r w (6 + r 1) = w := by
  unfold addR; rw [uN_n _ (by omega), uN_s]
theorem addD_0 (r : Ro) (k f b v : Nat) : addD r k f b v 0 = r 0 + 1 := uN_s _ _ _
theorem addD_k (r : Ro) (k f b v : Nat) : addD r k f b v (14 + 5 * r 0) = k ∧ addD r k f b v (15 + 5 * r 0) = f ∧ addD r k f b v (16 + 5 * r 0) = b ∧ addD r k f b v (17 + 5 * r 0) = v ∧ addD r k f b v (18 + 5 * r 0) = 0 := by
  unfold addD
  refine ⟨?_, ?_, ?_, ?_, ?_⟩
  · rw [uN_n _ (by omega), uN_n _ (by omega), uN_n _ (by omega), uN_n _ (by omega), uN_n _ (by omega), uN_s]
  · rw [uN_n _ (by omega), uN_n _ (by omega), uN_n _ (by omega), uN_n _ (by omega), uN_s]
  · rw [uN_n _ (by omega), uN_n _ (by omega), uN_n _ (by omega), uN_s]
  · rw [uN_n _ (by omega), uN_n _ (by omega), uN_s]
  · rw [uN_n _ (by omega), uN_s]
theorem addD_o {r : Ro} {k f b v j : Nat} (h : j ≠ 0) (h2 : j < 14 + 5 * r 0 ∨ 18 + 5 * r 0 < j) : addD r k f b v j = r j := by
  unfold addD
  rw [uN_n _ h, uN_n _ (by omega), uN_n _ (by omega), uN_n _ (by omega), uN_n _ (by omega), uN_n _ (by omega)]
section Pure
variable {T : Nat → Nat} {t : Nat}
theorem pl_ok (h : (pl7 T t).2 = 0) : (pl2 T t).2 = 0 ∧ (pl4 T t).2 = 0 ∧ (pl6 T t).2 = 0 := by
  have z6 : (pl6 T t).2 = 0 := (pSg_ok h).1
  have z5 : (pl5 T t).2 = 0 := (pNm_ok z6).1
  have z4 : (pl4 T t).2 = 0 := (pSg_ok z5).1
  have z3 : (pl3 T t).2 = 0 := (pNm_ok z4).1
  have z2 : (pl2 T t).2 = 0 := (pSg_ok z3).1
  exact ⟨z2, z4, z6⟩
theorem rq_ok {s : PS} {r : Ro} (h : (rq3 T t s r).2 = 0) : r 1 < 8 ∧ (rq2 T t s r).2 = 0 ∧ nvN T t (rq1 T t s r).1 ≤ 20 := by
  have z2 : (rq2 T t s r).2 = 0 := (pSg_ok h).1
  have q := pNm_ok (show (pNm T t 0 20 (-1) (rq1 T t s r)).2 = 0 from z2)
  have z0 : (rq0 s r).2 = 0 := (pSg_ok (show (pSg T t 114 (rq0 s r)).2 = 0 from q.1)).1
  refine ⟨?_, z2, q.2.2.1.2⟩
  rcases Nat.lt_or_ge (r 1) 8 with c | c
  · exact c
  · rw [rq0, if_pos c] at z0
    exact absurd z0 (pBd_ok (by decide))
theorem pRm_ok {x : PR} (h : (pRm T t x).1.2 = 0) : x.2 1 < 8 ∧ nvN T t (rq1 T t x.1 x.2).1 ≤ 20 ∧ (pRm T t x).2 = addR x.2 (nvN T t (rq1 T t x.1 x.2).1) := by
  have h' : (rq3 T t x.1 x.2).2 = 0 := h
  have q := rq_ok h'
  refine ⟨q.1, q.2.2, ?_⟩
  show (if (rq3 T t x.1 x.2).2 = 0 then addR x.2 (nvN T t (rq1 T t x.1 x.2).1) else x.2) = _
  rw [if_pos h']
theorem dr_ok {s : PS} {r : Ro} (h : (dr7 T t s r).2 = 0) : r 0 < 8 ∧ ((dr2 T t s r).2 = 0 ∧ nvN T t (dr1 T t s r).1 ≤ r 1 - 1) ∧ ((dr4 T t s r).2 = 0 ∧ nvN T t (dr3 T t s r).1 ≤ r 1 - 1 ∧ nvN T t (dr3 T t s r).1 ≠ nvN T t (dr1 T t s r).1) ∧ (dr6 T t s r).2 = 0 ∧ nvN T t (dr5 T t s r).1 ≤ 9 := by
  have z6 : (dr6 T t s r).2 = 0 := (pSg_ok h).1
  have q6 := pNm_ok (show (pNm T t 0 9 (-1) (dr5 T t s r)).2 = 0 from z6)
  have z4 : (dr4 T t s r).2 = 0 := (pSg_ok (show (pSg T t 44 (dr4 T t s r)).2 = 0 from q6.1)).1
  have q4 := pNm_ok (show (pNm T t 0 (r 1 - 1) (nI (nvN T t (dr1 T t s r).1)) (dr3 T t s r)).2 = 0 from z4)
  have z2 : (dr2 T t s r).2 = 0 := (pSg_ok (show (pSg T t 44 (dr2 T t s r)).2 = 0 from q4.1)).1
  have q2 := pNm_ok (show (pNm T t 0 (r 1 - 1) (-1) (dr1 T t s r)).2 = 0 from z2)
  have z0 : (dr0 s r).2 = 0 := (pSg_ok (show (pSg T t (T s.1) (dr0 s r)).2 = 0 from q2.1)).1
  refine ⟨?_, ⟨z2, q2.2.2.1.2⟩, ⟨z4, q4.2.2.1.2, fun e => q4.2.2.2.1 (by rw [e])⟩, z6, q6.2.2.1.2⟩
  rcases Nat.lt_or_ge (r 0) 8 with c | c
  · exact c
  · rw [dr0, if_pos c] at z0
    exact absurd z0 (pBd_ok (by decide))
theorem dr0_1 (s : PS) (r : Ro) : (dr0 s r).1 = s.1 := by
  unfold dr0 pBd
  split
  · split <;> rfl
  · rfl
/-- what may be read: rooms so far; with doors -/
def PW (r : Ro) : Prop := (1 ≤ r 2 ∧ r 2 ≤ 9) ∧ (1 ≤ r 3 ∧ r 3 ≤ 60) ∧ r 4 ≤ 63 ∧ (∀ k, k < 8 → r (6 + k) ≤ 20) ∧ r 1 ≤ 8 ∧ r 0 ≤ 8 ∧ (∀ k, k < r 0 → (1 ≤ r (14 + 5 * k) ∧ r (14 + 5 * k) ≤ 5) ∧ r (15 + 5 * k) < r 1 ∧ r (16 + 5 * k) < r 1 ∧ r (15 + 5 * k) ≠ r (16 + 5 * k) ∧ r (17 + 5 * k) ≤ 9 ∧ r (18 + 5 * k) ≤ 0)
theorem lawR_pw (h : (pl7 T t).2 = 0) : PW (lawR T t) ∧ lawR T t 0 = 0 ∧ lawR T t 1 = 0 := by
  obtain ⟨z2, z4, z6⟩ := pl_ok h
  have q2 := (pNm_ok (show (pNm T t 1 9 (-1) (pl1 T t)).2 = 0 from z2)).2.2.1
  have q4 := (pNm_ok (show (pNm T t 1 60 (-1) (pl3 T t)).2 = 0 from z4)).2.2.1
  have q6 := (pNm_ok (show (pNm T t 0 63 (-1) (pl5 T t)).2 = 0 from z6)).2.2.1
  have e0 : lawR T t 0 = 0 := lawR_o T t (by decide) (by decide) (by decide)
  have e1 : lawR T t 1 = 0 := lawR_o T t (by decide) (by decide) (by decide)
  refine ⟨⟨?_, ?_, ?_, ?_, by omega, by omega, fun k hk => by omega⟩, e0, e1⟩
  · rw [lawR_2]; exact q2
  · rw [lawR_3]; exact q4
  · rw [lawR_4]; exact q6.2
  · intro k hk
    rw [lawR_o T t (by omega) (by omega) (by omega)]; omega
theorem addR_pw {r : Ro} {w : Nat} (h : PW r) (h0 : r 0 = 0) (h8 : r 1 < 8) (hw : w ≤ 20) : PW (addR r w) ∧ addR r w 0 = 0 ∧ addR r w 1 = r 1 + 1 := by
  obtain ⟨h1, h2, h3, h4, h5, h6, h7⟩ := h
  have e0 : addR r w 0 = 0 := by rw [addR_o (by decide) (by omega), h0]
  refine ⟨⟨?_, ?_, ?_, ?_, ?_, by omega, fun k hk => by omega⟩, e0, addR_1 r w⟩
  · rw [addR_o (by decide) (by omega)]; exact h1
  · rw [addR_o (by decide) (by omega)]; exact h2
  · rw [addR_o (by decide) (by omega)]; exact h3
  · intro k hk
    by_cases e : k = r 1
    · subst e; rw [addR_w]; exact hw
    · rw [addR_o (by omega) (by omega)]; exact h4 k hk
  · rw [addR_1]; omega
theorem addD_pw {r : Ro} {k f b v : Nat} (h : PW r) (h0 : r 0 < 8) (hk : 1 ≤ k ∧ k ≤ 5) (hf : f < r 1) (hb : b < r 1) (hn : b ≠ f) (hv : v ≤ 9) : PW (addD r k f b v) ∧ addD r k f b v 0 = r 0 + 1 ∧ addD r k f b v 1 = r 1 := by
  obtain ⟨h1, h2, h3, h4, h5, h6, h7⟩ := h
  have e0 := addD_0 r k f b v
  have e1 : addD r k f b v 1 = r 1 := addD_o (by decide) (by omega)
  have ek := addD_k r k f b v
  refine ⟨⟨?_, ?_, ?_, ?_, ?_, by omega, fun j hj => ?_⟩, e0, e1⟩
  · rw [addD_o (by decide) (by omega)]; exact h1
  · rw [addD_o (by decide) (by omega)]; exact h2
  · rw [addD_o (by decide) (by omega)]; exact h3
  · intro j hj; rw [addD_o (by omega) (by omega)]; exact h4 j hj
  · rw [e1]; exact h5
  · rw [e0] at hj
    rw [e1]
    by_cases e : j = r 0
    · subst e
      rw [ek.1, ek.2.1, ek.2.2.1, ek.2.2.2.1, ek.2.2.2.2]
      exact ⟨hk, hf, hb, fun q => hn q.symm, hv, Nat.le_refl _⟩
    · rw [addD_o (by omega) (by omega), addD_o (by omega) (by omega), addD_o (by omega) (by omega), addD_o (by omega) (by omega), addD_o (by omega) (by omega)]
      exact h7 j (by omega)
theorem pRl_pw : ∀ (c : Nat) (x : PR), (x.1.2 = 0 → PW x.2 ∧ x.2 0 = 0) → ((pRl T t c x).1.2 = 0 → PW (pRl T t c x).2 ∧ (pRl T t c x).2 0 = 0)
  | 0, x, h => h
  | c + 1, x, h => by
    rw [pRl]
    by_cases a : x.1.2 = 0 ∧ x.1.1 < t ∧ T x.1.1 = 114
    · rw [if_pos a]
      refine pRl_pw c _ (fun z => ?_)
      obtain ⟨p1, p2, p3⟩ := pRm_ok z
      have q := addR_pw (h a.1).1 (h a.1).2 p1 p2
      rw [p3]; exact ⟨q.1, q.2.1⟩
    · rw [if_neg a]; exact h
theorem pDl_pw : ∀ (c : Nat) (x : PR), (x.1.2 = 0 → PW x.2 ∧ 2 ≤ x.2 1) → ((pDl T t c x).1.2 = 0 → PW (pDl T t c x).2 ∧ 2 ≤ (pDl T t c x).2 1)
  | 0, x, h => h
  | c + 1, x, h => by
    rw [pDl]
    by_cases a : x.1.2 = 0 ∧ x.1.1 < t ∧ ¬ kb (T x.1.1) = 0
    · rw [if_pos a]
      refine pDl_pw c _ (fun z => ?_)
      have z' : (dr7 T t x.1 x.2).2 = 0 := z
      obtain ⟨p1, p2, p3, p4, p5⟩ := dr_ok z'
      have hr := (h a.1).2
      have q := addD_pw (k := kb (T x.1.1)) (h a.1).1 p1 ⟨by omega, kb_le _⟩ (f := nvN T t (dr1 T t x.1 x.2).1) (b := nvN T t (dr3 T t x.1 x.2).1) (v := nvN T t (dr5 T t x.1 x.2).1) (by omega) (by omega) p3.2.2 p5
      have e : (pDr T t x).2 = addD x.2 (kb (T x.1.1)) (nvN T t (dr1 T t x.1 x.2).1) (nvN T t (dr3 T t x.1 x.2).1) (nvN T t (dr5 T t x.1 x.2).1) := by
        show (if (dr7 T t x.1 x.2).2 = 0 then _ else x.2) = _
        rw [if_pos z']
      rw [e]
      exact ⟨q.1, by rw [q.2.2]; exact hr⟩
    · rw [if_neg a]; exact h
theorem pR2_ok (h : (pR2 T t).1.2 = 0) : (pR1 T t).1.2 = 0 ∧ 2 ≤ (pR1 T t).2 1 ∧ (pR2 T t).1 = (pR1 T t).1 := by
  have h' : (if (pR1 T t).2 1 < 2 then pBd 1 (pR1 T t).1 else (pR1 T t).1).2 = 0 := h
  by_cases c : (pR1 T t).2 1 < 2
  · rw [if_pos c] at h'; exact absurd h' (pBd_ok (by decide))
  · rw [if_neg c] at h'
    refine ⟨h', by omega, ?_⟩
    show (if (pR1 T t).2 1 < 2 then pBd 1 (pR1 T t).1 else (pR1 T t).1) = _
    rw [if_neg c]
theorem pR1_pw (h : (pR1 T t).1.2 = 0) : PW (pR1 T t).2 ∧ (pR1 T t).2 0 = 0 := pRl_pw 9 _ (fun z => ⟨(lawR_pw z).1, (lawR_pw z).2.1⟩) h
theorem pR2_2 : (pR2 T t).2 = (pR1 T t).2 := by simp only [pR2]
theorem pD1_e : pD1 T t = pDl T t 9 (pR2 T t) := by unfold pD1; rfl
theorem pD2_wf (h : (pD2 T t).2 = 0) : wf (pD1 T t).2 0 ∧ (pD1 T t).1.2 = 0 := by
  unfold pD2 at h
  rw [pD1_e] at h ⊢
  by_cases c : (pDl T t 9 (pR2 T t)).2 0 < 1 ∨ (pDl T t 9 (pR2 T t)).1.1 < t
  · rw [if_pos c] at h; exact absurd h (pBd_ok (by decide))
  · rw [if_neg c] at h
    obtain ⟨⟨a1, a2, a3, a4, a5, a6, a7⟩, b⟩ := pDl_pw (T := T) (t := t) 9 (pR2 T t) (fun z => by rw [pR2_2]; exact ⟨(pR1_pw (pR2_ok z).1).1, (pR2_ok z).2.1⟩) h
    refine ⟨⟨⟨b, a5⟩, ⟨?_, a6⟩, a1, a2, a3, a4, a7⟩, h⟩
    rcases Nat.lt_or_ge ((pDl T t 9 (pR2 T t)).2 0) 1 with q | q
    · exact absurd (Or.inl q) c
    · exact q
end Pure
