/-! THE CALL errand -/
theorem wGo_len {r : Ro} {N : Nat} (h : wf r N) (hN : N ≤ 2000) (xs : List Int32) : (wGo r xs).1.2.2.2.2.1.length ≤ 8 := by
  have h1 := (WOK_wRun xs (start r) (WOK_start h hN)).len
  have h2 : (wGo r xs).1.2 = (wRun xs (start r)).1.2 := wTake_op _
  rw [h2]; exact h1
theorem wGo_f {r : Ro} (xs : List Int32) : (wGo r xs).2.1 < 2 ^ 31 := wTake_f (wRun_f _ _)
theorem ledg_len {r : Ro} {N : Nat} (h : wf r N) (hN : N ≤ 2000) (xs : List Int32) : (ledg (wGo r xs).1 (wGo r xs).2.1).length ≤ 17 := by
  have := wGo_len h hN xs
  unfold ledg
  simp only [List.length_append, List.length_map, List.length_reverse, List.length_cons, List.length_nil]
  omega
def ML (J : Nat → Nat → Int32) (l : List Nat) : Prop := J 162 27 = nI l.length ∧ ∀ i, i < l.length → J 173 i = nI (l.getD i 0)
def FrL (I I' : Nat → Nat → Int32) : Prop := (∀ x, x ≠ 162 → x ≠ 173 → I' x = I x) ∧ (∀ j, j ≠ 27 → I' 162 j = I 162 j)
section Errand
variable {I I' : Nat → Nat → Int32} {D : Nat → Nat → Option Nat} {K : Nat → Nat} {n N : Nat} {Z : Nat → Cl}
theorem FrL.rfl' : FrL I I := ⟨fun _ _ _ => rfl, fun _ _ => rfl⟩
theorem FrL.trans {J : Nat → Nat → Int32} (h : FrL I I') (g : FrL I' J) : FrL I J := ⟨fun x a b => (g.1 x a b).trans (h.1 x a b), fun j a => (g.2 j a).trans (h.2 j a)⟩
theorem m_writes {l : List Nat} (h : ML I l) (hl : l.length < 20) (v : Nat) : ∃ I', f_X12_writes (enc I D K n Z) 162 (nI v) = some (enc I' D K n Z) ∧ ML I' (l ++ [v]) ∧ FrL I I' := by
  simp only [f_X12_writes, r162_26, g162_27, bA_s, h.1, ast_n s_173 l.length _ hl (by decide), va_up_ne _ _ (show 162 ≠ 173 by decide), p162_27, z_i2]
  refine ⟨_, rfl, ⟨?_, fun i hi => ?_⟩, fun x a b => ?_, fun j a => ?_⟩
  · rw [va_up_self, pk_us, List.length_append]; rfl
  · rw [va_up_ne _ _ (by decide), va_up_self]
    rw [List.length_append] at hi
    simp only [List.length_cons, List.length_nil] at hi
    by_cases e : i = l.length
    · subst e; rw [pk_us, getD_app_eq]
    · rw [pk_un e, h.2 i (by omega), getD_app_lt (by omega)]
  · rw [va_up_ne _ _ a, va_up_ne _ _ b]
  · rw [va_up_self, pk_un a]
theorem m_e66 {op : List Nat} (h8 : op.length ≤ 8) (x1 x2 x3 x4 x5 : Int32) {β : Type} (kk : Int32 → Hp → Option β) : ∀ (m fuel j : Nat) (I : Nat → Nat → Int32) (l : List Nat), j + m = op.length → m < fuel → I 162 21 = nI op.length → (∀ i, i < op.length → I 172 i = nI (op.getD i 0)) → ML I l → l.length + m ≤ 17 → ∃ I' y, f_X12_errand_L66 kk 162 x1 x2 x3 x4 x5 fuel (enc I D K n Z) (nI j) = kk y (enc I' D K n Z) ∧ ML I' (l ++ (op.drop j).map (fun k => 100 + k)) ∧ FrL I I' := by
  intro m
  induction m with
  | zero =>
    intro fuel j I l hj hf h21 h172 hl hlen
    obtain ⟨f, rfl⟩ : ∃ f, fuel = f + 1 := ⟨fuel - 1, by omega⟩
    have e : j = op.length := by omega
    subst e
    refine ⟨I, nI op.length, ?_, by rw [List.drop_length]; simpa using hl, FrL.rfl'⟩
    rw [f_X12_errand_L66]
    simp only [g162_21, bA_s, h21]
    rw [if_pos (nI_le (Nat.le_refl _) (by omega))]
  | succ m ih =>
    intro fuel j I l hj hf h21 h172 hl hlen
    obtain ⟨f, rfl⟩ : ∃ f, fuel = f + 1 := ⟨fuel - 1, by omega⟩
    have hjl : j < op.length := by omega
    rw [f_X12_errand_L66]
    simp only [g162_21, bA_s, h21]
    rw [if_neg (nI_ge (by omega) (by omega))]
    simp only [r162_20, bA_s, ald_n s_172 j (show j < 8 by omega) (by decide), h172 j hjl, c162, show (100 : Int32) = nI 100 from rfl, nI_add, z_i2]
    obtain ⟨I1, g1, g2, g3⟩ := m_writes (D := D) (K := K) (n := n) (Z := Z) hl (by omega) (100 + op.getD j 0)
    simp only [g1, bA_s]
    obtain ⟨I2, y, k1, k2, k3⟩ := ih f (j + 1) I1 _ (by omega) (by omega) (by rw [g3.2 21 (by decide)]; exact h21) (fun i hi => by rw [g3.1 172 (by decide) (by decide)]; exact h172 i hi) g2 (by rw [List.length_append]; simp only [List.length_cons, List.length_nil]; omega)
    refine ⟨I2, y, k1, ?_, FrL.trans g3 k3⟩
    rw [drop_cons hjl, List.map_cons]
    rw [List.append_assoc] at k2
    exact k2
theorem m_e133 {op : List Nat} (h8 : op.length ≤ 8) (x1 x2 x3 x4 x5 : Int32) {β : Type} (kk : Int32 → Hp → Option β) : ∀ (m fuel : Nat) (I : Nat → Nat → Int32) (l : List Nat), m ≤ op.length → m < fuel → (∀ i, i < op.length → I 172 i = nI (op.getD i 0)) → ML I l → l.length + m ≤ 17 → ∃ I' y, f_X12_errand_L133 kk 162 x1 x2 x3 x4 x5 fuel (enc I D K n Z) (nI m - 1) = kk y (enc I' D K n Z) ∧ ML I' (l ++ (op.take m).reverse.map (fun k => 200 + k)) ∧ FrL I I' := by
  intro m
  induction m with
  | zero =>
    intro fuel I l hm hf h172 hl hlen
    obtain ⟨f, rfl⟩ : ∃ f, fuel = f + 1 := ⟨fuel - 1, by omega⟩
    rw [f_X12_errand_L133, if_pos neg_one_lt]
    exact ⟨I, _, rfl, by simpa using hl, FrL.rfl'⟩
  | succ m ih =>
    intro fuel I l hm hf h172 hl hlen
    obtain ⟨f, rfl⟩ : ∃ f, fuel = f + 1 := ⟨fuel - 1, by omega⟩
    have hml : m < op.length := by omega
    rw [f_X12_errand_L133, nI_pred, if_neg (nI_pos (by omega))]
    simp only [r162_20, bA_s, ald_n s_172 m (show m < 8 by omega) (by decide), h172 m hml, c162, show (200 : Int32) = nI 200 from rfl, nI_add]
    obtain ⟨I1, g1, g2, g3⟩ := m_writes (D := D) (K := K) (n := n) (Z := Z) hl (by omega) (200 + op.getD m 0)
    simp only [g1, bA_s, sub_one]
    obtain ⟨I2, y, k1, k2, k3⟩ := ih f I1 _ (by omega) (by omega) (fun i hi => by rw [g3.1 172 (by decide) (by decide)]; exact h172 i hi) g2 (by rw [List.length_append]; simp only [List.length_cons, List.length_nil]; omega)
    refine ⟨I2, y, k1, ?_, FrL.trans g3 k3⟩
    have e : (op.take (m + 1)).reverse.map (fun k => 200 + k) = (200 + op.getD m 0) :: (op.take m).reverse.map (fun k => 200 + k) := by
      rw [List.take_succ_eq_append_getElem hml, List.reverse_append]
      simp [List.getD_eq_getElem?_getD, List.getElem?_eq_getElem hml]
    rw [e]
    rw [List.append_assoc] at k2
    exact k2
/-- the reference's ledger is told, and the errand's answer -/
theorem m_tell {g : WS × Nat × Nat} (hlen : g.1.2.2.2.2.1.length ≤ 8) (hf : g.2.1 < 2 ^ 31) (hG : MG I g) (x1 x2 x3 x4 : Int32) : ∃ J, (bA (pV (enc I D K n Z) 162 11 27 (.inl (0 : Int32))) fun h53 => f_X12_errand_L66 (fun y71 h70 => bA (gI h70 162 11 25) fun g73 => bA (if g73 = 0 then bA (gI h70 162 11 24) fun g81 => some ((300 : Int32) + g81) else bA (gI h70 162 11 25) fun g79 => some ((400 : Int32) + g79)) fun j75 => bA (isC h70 162 11) fun u88 => bA (f_X12_writes h70 162 j75) fun h82 => bA (gI h82 162 11 21) fun g92 => f_X12_errand_L133 (fun y108 h107 => bA (gI h107 162 11 25) fun g110 => b2 (if g110 = 0 then some (nI g.2.2, h107) else bA (gI h107 162 11 25) fun g117 => bA (isC h107 162 11) fun u124 => b2 (f_X12_finding h107 162 g117) fun r120 h118 => some (r120, h118)) fun j112 h113 => some (j112, h113)) 162 x1 x2 x3 x4 (nI g.2.2) 2000 h82 (g92 - (1 : Int32))) 162 x1 x2 x3 x4 (nI g.2.2) 2000 h53 (0 : Int32)) = some (if g.2.1 = 0 then nI g.2.2 else -1000010 - nI g.2.1, enc J D K n Z) ∧ ML J (ledg g.1 g.2.1) ∧ (∀ x, x ≠ 162 → x ≠ 173 → J x = I x) ∧ (∀ j, j ≠ 27 → j ≠ 1 → J 162 j = I 162 j) ∧ J 162 1 = (if g.2.1 = 0 then I 162 1 else nI g.2.1) := by
  obtain ⟨⟨h21, h22, h23, h24, h25⟩, h172⟩ := hG
  have ez : (nI g.2.1 = (0 : Int32)) = (g.2.1 = 0) := z_eq hf (by decide)
  generalize hI1 : va_up I 162 (upd (I 162) 27 0) = I1
  have f1 : ∀ x, x ≠ 162 → I1 x = I x := fun x hx => by rw [← hI1, va_up_ne _ _ hx]
  have f1a : ∀ j, j ≠ 27 → I1 162 j = I 162 j := fun j hj => by rw [← hI1, va_up_self, pk_un hj]
  have l1 : ML I1 [] := ⟨by rw [← hI1, va_up_self, pk_us]; rfl, fun i hi => absurd hi (Nat.not_lt_zero i)⟩
  obtain ⟨I2, y, a1, a2, a3⟩ := m_e66 (D := D) (K := K) (n := n) (Z := Z) hlen x1 x2 x3 x4 (nI g.2.2) (fun y71 h70 => bA (gI h70 162 11 25) fun g73 => bA (if g73 = 0 then bA (gI h70 162 11 24) fun g81 => some ((300 : Int32) + g81) else bA (gI h70 162 11 25) fun g79 => some ((400 : Int32) + g79)) fun j75 => bA (isC h70 162 11) fun u88 => bA (f_X12_writes h70 162 j75) fun h82 => bA (gI h82 162 11 21) fun g92 => f_X12_errand_L133 (fun y108 h107 => bA (gI h107 162 11 25) fun g110 => b2 (if g110 = 0 then some (nI g.2.2, h107) else bA (gI h107 162 11 25) fun g117 => bA (isC h107 162 11) fun u124 => b2 (f_X12_finding h107 162 g117) fun r120 h118 => some (r120, h118)) fun j112 h113 => some (j112, h113)) 162 x1 x2 x3 x4 (nI g.2.2) 2000 h82 (g92 - (1 : Int32))) g.1.2.2.2.2.1.length 2000 0 I1 [] (by omega) (by omega) (by rw [f1a 21 (by decide)]; exact h21) (fun i hi => by rw [f1 172 (by decide)]; exact h172 i hi) l1 (by simp only [List.length_nil]; omega)
  rw [show nI 0 = (0 : Int32) by decide] at a1
  simp only [p162_27, bA_s, hI1, a1]
  have e25 : I2 162 25 = nI g.2.1 := by rw [a3.2 25 (by decide), f1a 25 (by decide)]; exact h25
  have e24 : I2 162 24 = nI g.1.2.1 := by rw [a3.2 24 (by decide), f1a 24 (by decide)]; exact h24
  rw [List.drop_zero, List.nil_append] at a2
  obtain ⟨I3, b1, b2', b3⟩ := m_writes (D := D) (K := K) (n := n) (Z := Z) a2 (by rw [List.length_map]; omega) (if g.2.1 = 0 then 300 + g.1.2.1 else 400 + g.2.1)
  have e21 : I3 162 21 = nI g.1.2.2.2.2.1.length := by rw [b3.2 21 (by decide), a3.2 21 (by decide), f1a 21 (by decide)]; exact h21
  obtain ⟨I4, y2, c1, c2, c3⟩ := m_e133 (D := D) (K := K) (n := n) (Z := Z) hlen x1 x2 x3 x4 (nI g.2.2) (fun y108 h107 => bA (gI h107 162 11 25) fun g110 => b2 (if g110 = 0 then some (nI g.2.2, h107) else bA (gI h107 162 11 25) fun g117 => bA (isC h107 162 11) fun u124 => b2 (f_X12_finding h107 162 g117) fun r120 h118 => some (r120, h118)) fun j112 h113 => some (j112, h113)) g.1.2.2.2.2.1.length 2000 I3 _ (Nat.le_refl _) (by omega) (fun i hi => by rw [b3.1 172 (by decide) (by decide), a3.1 172 (by decide) (by decide), f1 172 (by decide)]; exact h172 i hi) b2' (by rw [List.length_append, List.length_map]; simp only [List.length_cons, List.length_nil]; omega)
  have hall := FrL.trans (FrL.trans a3 b3) c3
  have e425 : I4 162 25 = nI g.2.1 := by rw [hall.2 25 (by decide), f1a 25 (by decide)]; exact h25
  have hfin : ML I4 (ledg g.1 g.2.1) := by
    have e : ledg g.1 g.2.1 = (g.1.2.2.2.2.1.map (fun k => 100 + k) ++ [if g.2.1 = 0 then 300 + g.1.2.1 else 400 + g.2.1]) ++ ((g.1.2.2.2.2.1.take g.1.2.2.2.2.1.length).reverse.map (fun k => 200 + k)) := by
      unfold ledg
      rw [List.take_length, List.append_assoc]
    rw [e]; exact c2
  have fx : ∀ x, x ≠ 162 → x ≠ 173 → I4 x = I x := fun x a b => by rw [hall.1 x a b, f1 x a]
  have fj : ∀ j, j ≠ 27 → I4 162 j = I 162 j := fun j a => by rw [hall.2 j a, f1a j a]
  by_cases e : g.2.1 = 0
  · rw [if_pos e] at b1
    refine ⟨I4, ?_, hfin, fx, fun j a b => fj j a, by rw [if_pos e]; exact fj 1 (by decide)⟩
    simp only [g162_25, e25, bA_s, ez, if_pos e, g162_24, e24, show (300 : Int32) = nI 300 from rfl, nI_add, c162, b1, g162_21, e21]
    rw [c1]
    simp only [g162_25, bA_s, e425, ez, if_pos e, b2_s]
  · rw [if_neg e] at b1
    refine ⟨va_up I4 162 (upd (I4 162) 1 (nI g.2.1)), ?_, ⟨?_, fun i hi => ?_⟩, fun x a b => ?_, fun j a b => ?_, ?_⟩
    · simp only [g162_25, e25, bA_s, ez, if_neg e, g162_24, e24, show (400 : Int32) = nI 400 from rfl, nI_add, c162, b1, g162_21, e21]
      rw [c1]
      simp only [g162_25, bA_s, e425, ez, if_neg e, b2_s, c162, f_X12_finding, p162_1]
    · rw [va_up_self, pk_un (by decide)]; exact hfin.1
    · rw [va_up_ne _ _ (by decide)]; exact hfin.2 i hi
    · rw [va_up_ne _ _ a]; exact fx x a b
    · rw [va_up_self, pk_un b]; exact fj j a
    · rw [va_up_self, pk_us, if_neg e]
end Errand
