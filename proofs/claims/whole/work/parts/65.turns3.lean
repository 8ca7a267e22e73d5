section Turns3
variable {I I' : Nat → Nat → Int32} {D D' : Nat → Nat → Option Nat} {K : Nat → Nat} {n N : Nat} {Z : Nat → Cl} {r : Ro}
def loT (m d : Nat) : Nat := if m = 0 then d else 0
theorem loT_le (m d : Nat) : loT m d ≤ d := by unfold loT; split <;> omega
/-- the third's best, over all c -/
theorem m_third {β : Type} (kk : Int32 → Int32 → Hp → Option β) (x1 x3 x5 : Int32) (hw : wf r N) (hN : N + 3 ≤ 2000) {a b m : Nat} (ha : a ≤ 8) (hb : b ≤ 8) (hm : m ≤ 1) {J : Nat → Nat → Int32} (hM : MH (J 166) r) : ∃ J' y, f_X12_byTurns_L95 kk 162 x1 (nI (r 0)) x3 (nI a) x5 (nI b) 2000 (enc J D K n Z) (-1000000 : Int32) (nI (loT m (r 0))) = kk (iI (mvW r a + (-mvW (mvH r a) b + valT m true (mvH (mvH r a) b)))) y (enc J' D K n Z) ∧ TF J J' := by
  have h8 := hw.le8.2
  have hlo := loT_le m (r 0)
  obtain ⟨e, he⟩ : ∃ e, r 0 = loT m (r 0) + e := ⟨r 0 - loT m (r 0), by omega⟩
  obtain ⟨J', g1, g2⟩ := m_L95 (D := D) (K := K) (n := n) (Z := Z) kk x1 x3 x5 hw hN ha hb (e + 1) 2000 (loT m (r 0)) J (-1000000) (by omega) (by omega) hM (by omega)
  have w0 := mvW_b hw (show N ≤ 2000 by omega) a
  have w1 := mvW_b (mvH_wf hw (by omega) a) (by omega) b
  have t := top_is (f := fun c => mvW r a + -mvW (mvH r a) b + mvW (mvH (mvH r a) b) c) (c := e) (lo := loT m (r 0)) (fun k => by
    have w2 := mvW_b (mvH_wf (mvH_wf hw (show N ≤ 2000 by omega) a) (show N + 1 ≤ 2000 by omega) b) (show N + 1 + 1 ≤ 2000 by omega) k
    show -1000 ≤ mvW r a + -mvW (mvH r a) b + mvW (mvH (mvH r a) b) k ∧ mvW r a + -mvW (mvH r a) b + mvW (mvH (mvH r a) b) k ≤ 1000
    omega)
  rw [← he] at t
  have q0 : mvH (mvH r a) b 0 = r 0 := by rw [mvH_0 (by rw [mvH_0 h8]; exact h8) b, mvH_0 h8]
  have v := lvl (b := true) (q := mvH (mvH r a) b) (m := m) (d := r 0) (X := mvW r a + -mvW (mvH r a) b) q0 (lo := loT m (r 0)) rfl (t.cong (fun k _ _ => by
    rw [if_pos rfl, show m - 1 = 0 by omega, valT, Int.add_zero]))
  rw [v, Int.add_assoc] at g1
  exact ⟨J', _, g1, g2⟩
/-- one step of the second's loop -/
theorem m_L73_step {β : Type} (kk : Int32 → Int32 → Hp → Option β) {nn a j : Nat} (x3 : Int32) (hw : wf r N) (hN : N + 3 ≤ 2000) (hn : nn ≤ 3) (ha : a ≤ 8) (hj : j ≤ r 0) {J : Nat → Nat → Int32} (hM : MH (J 166) r) (acc : Int32) (f : Nat) : ∃ J', f_X12_byTurns_L73 kk 162 (nI nn) (nI (r 0)) x3 (nI a) (f + 1) (enc J D K n Z) acc (nI j) = (bA (if acc = (-1000000 : Int32) then some (iI (mvW r a + (-mvW (mvH r a) j + valT (nn - 2) true (mvH (mvH r a) j)))) else (if acc ≤ iI (mvW r a + (-mvW (mvH r a) j + valT (nn - 2) true (mvH (mvH r a) j))) then some acc else some (iI (mvW r a + (-mvW (mvH r a) j + valT (nn - 2) true (mvH (mvH r a) j)))))) fun j58 => f_X12_byTurns_L73 kk 162 (nI nn) (nI (r 0)) x3 (nI a) f (enc J' D K n Z) j58 (nI (j + 1))) ∧ TF J J' := by
  have h8 := hw.le8.2
  obtain ⟨J', y, g1, g2⟩ := m_third (D := D) (K := K) (n := n) (Z := Z) (fun y55 y56 h54 => bA (if acc = (-1000000 : Int32) then some y55 else (if acc ≤ y55 then some acc else some y55)) fun j58 => f_X12_byTurns_L73 kk 162 (nI nn) (nI (r 0)) x3 (nI a) f h54 j58 (nI j + (1 : Int32))) (nI nn) x3 acc hw hN ha (show j ≤ 8 by omega) (m := nn - 2) (by omega) hM
  refine ⟨J', ?_, g2⟩
  have lo : (if nI nn ≤ (2 : Int32) then some (nI (r 0)) else some (0 : Int32)) = some (nI (loT (nn - 2) (r 0))) := by
    have e : (nI nn ≤ (2 : Int32)) = (nn ≤ 2) := z_le (m := 2) (by omega) (by decide)
    unfold loT
    by_cases q : nn ≤ 2
    · rw [if_pos (e.mpr q), if_pos (by omega)]
    · rw [if_neg (fun z => q (e.mp z)), if_neg (by omega)]; rfl
  rw [f_X12_byTurns_L73, if_neg (nI_nlt hj (by omega)), lo, bA_s, g1, z_i2]
/-- what the second makes of it -/
def twoV (r : Ro) (nn a j : Nat) : Int := mvW r a + (-mvW (mvH r a) j + valT (nn - 2) true (mvH (mvH r a) j))
theorem twoV_b (hw : wf r N) (hN : N + 3 ≤ 2000) {nn : Nat} (hn : nn ≤ 3) (a j : Nat) : -1000 ≤ twoV r nn a j ∧ twoV r nn a j ≤ 1000 := by
  have w0 := mvW_b hw (show N ≤ 2000 by omega) a
  have w1 := mvW_b (mvH_wf hw (by omega) a) (by omega) j
  have w2 := valT_b (nn - 2) true (mvH (mvH r a) j) (N + 1 + 1) (mvH_wf (mvH_wf hw (by omega) a) (by omega) j) (by omega)
  unfold twoV
  omega
theorem m_L73 {β : Type} (kk : Int32 → Int32 → Hp → Option β) {nn a : Nat} (x3 : Int32) (hw : wf r N) (hN : N + 3 ≤ 2000) (hn : nn ≤ 3) (ha : a ≤ 8) : ∀ (c fuel j : Nat) (J : Nat → Nat → Int32) (v : Int), j + c = r 0 + 1 → c < fuel → MH (J 166) r → (-1000 ≤ v ∧ v ≤ 1000) → ∃ J' y, f_X12_byTurns_L73 kk 162 (nI nn) (nI (r 0)) x3 (nI a) fuel (enc J D K n Z) (iI v) (nI j) = kk (iI (foldB false (twoV r nn a) c j v)) y (enc J' D K n Z) ∧ TF J J' := by
  have h8 := hw.le8.2
  intro c
  induction c with
  | zero =>
    intro fuel j J v hj hf hM hv
    obtain ⟨f, rfl⟩ : ∃ f, fuel = f + 1 := ⟨fuel - 1, by omega⟩
    exact ⟨J, _, by rw [f_X12_byTurns_L73, if_pos (nI_lt (show r 0 < j by omega) (by omega)), foldB], TF.rf J⟩
  | succ c ih =>
    intro fuel j J v hj hf hM hv
    obtain ⟨f, rfl⟩ : ∃ f, fuel = f + 1 := ⟨fuel - 1, by omega⟩
    obtain ⟨J1, g1, g2⟩ := m_L73_step (D := D) (K := K) (n := n) (Z := Z) kk (nn := nn) (a := a) (j := j) x3 hw hN hn ha (by omega) hM (iI v) f
    have tb := twoV_b hw hN hn a j
    obtain ⟨J2, y, k1, k2⟩ := ih f (j + 1) J1 (pick false v (twoV r nn a j)) (by omega) (by omega) (by rw [g2.row]; exact hM) (by rcases pick_or false v (twoV r nn a j) with e | e <;> rw [e] <;> omega)
    refine ⟨J2, y, ?_, g2.tr k2⟩
    have ne : ¬ iI v = (-1000000 : Int32) := by
      rw [show (-1000000 : Int32) = iI (-1000000) by decide, iI_eq (by unfold sm; omega) (by unfold sm; omega)]
      omega
    have le : (iI v ≤ iI (twoV r nn a j)) = (v ≤ twoV r nn a j) := iI_le (by unfold sm; omega) (by unfold sm; omega)
    rw [foldB, ← k1, g1, if_neg ne, pick_f]
    change (bA (if iI v ≤ iI (twoV r nn a j) then some (iI v) else some (iI (twoV r nn a j))) fun j58 => f_X12_byTurns_L73 kk 162 (nI nn) (nI (r 0)) x3 (nI a) f (enc J1 D K n Z) j58 (nI (j + 1))) = _
    by_cases q : v ≤ twoV r nn a j
    · rw [if_pos (le.mpr q), if_pos q, bA_s]
    · rw [if_neg (fun z => q (le.mp z)), if_neg q, bA_s]
/-- the second's best, over all b -/
theorem m_second {β : Type} (kk : Int32 → Int32 → Hp → Option β) {nn a : Nat} (x3 : Int32) (hw : wf r N) (hN : N + 3 ≤ 2000) (hn : nn ≤ 3) (ha : a ≤ 8) {J : Nat → Nat → Int32} (hM : MH (J 166) r) : ∃ J' y, f_X12_byTurns_L73 kk 162 (nI nn) (nI (r 0)) x3 (nI a) 2000 (enc J D K n Z) (-1000000 : Int32) (nI (loT (nn - 1) (r 0))) = kk (iI (mvW r a + valT (nn - 1) false (mvH r a))) y (enc J' D K n Z) ∧ TF J J' := by
  have h8 := hw.le8.2
  have hlo := loT_le (nn - 1) (r 0)
  obtain ⟨e, he⟩ : ∃ e, r 0 = loT (nn - 1) (r 0) + e := ⟨r 0 - loT (nn - 1) (r 0), by omega⟩
  obtain ⟨J1, g1, g2⟩ := m_L73_step (D := D) (K := K) (n := n) (Z := Z) kk (nn := nn) (a := a) (j := loT (nn - 1) (r 0)) x3 hw hN hn ha (by omega) hM (-1000000 : Int32) 1999
  obtain ⟨J2, y, k1, k2⟩ := m_L73 (D := D) (K := K) (n := n) (Z := Z) kk (nn := nn) (a := a) x3 hw hN hn ha e 1999 (loT (nn - 1) (r 0) + 1) J1 (twoV r nn a (loT (nn - 1) (r 0))) (by omega) (by omega) (by rw [g2.row]; exact hM) (twoV_b hw hN hn a _)
  rw [if_pos rfl, bA_s] at g1
  have t := low_is (f := twoV r nn a) (c := e) (lo := loT (nn - 1) (r 0))
  rw [← he] at t
  have v := lvl (b := false) (q := mvH r a) (m := nn - 1) (d := r 0) (X := mvW r a) (mvH_0 h8 a) (lo := loT (nn - 1) (r 0)) rfl (t.cong (fun k _ _ => by
    rw [if_neg (by decide), show nn - 1 - 1 = nn - 2 by omega]; rfl))
  rw [v] at k1
  exact ⟨J2, y, g1.trans k1, g2.tr k2⟩
theorem m_L51 {β : Type} (kk : Int32 → Int32 → Hp → Option β) {nn : Nat} (hw : wf r N) (hN : N + 3 ≤ 2000) (hn : nn ≤ 3) : ∀ (c fuel j : Nat) (J : Nat → Nat → Int32) (v : Int), j + c = r 0 + 1 → c < fuel → MH (J 166) r → (-1000000 ≤ v ∧ v ≤ 1000) → ∃ J' y, f_X12_byTurns_L51 kk 162 (nI nn) (nI (r 0)) fuel (enc J D K n Z) (iI v) (nI j) = kk (iI (foldB true (fun a => mvW r a + valT (nn - 1) false (mvH r a)) c j v)) y (enc J' D K n Z) ∧ TF J J' := by
  have h8 := hw.le8.2
  intro c
  induction c with
  | zero =>
    intro fuel j J v hj hf hM hv
    obtain ⟨f, rfl⟩ : ∃ f, fuel = f + 1 := ⟨fuel - 1, by omega⟩
    exact ⟨J, _, by rw [f_X12_byTurns_L51, if_pos (nI_lt (show r 0 < j by omega) (by omega)), foldB], TF.rf J⟩
  | succ c ih =>
    intro fuel j J v hj hf hM hv
    obtain ⟨f, rfl⟩ : ∃ f, fuel = f + 1 := ⟨fuel - 1, by omega⟩
    obtain ⟨J1, y1, g1, g2⟩ := m_second (D := D) (K := K) (n := n) (Z := Z) (fun y63 y64 h62 => bA (if y63 ≤ iI v then some (iI v) else some y63) fun j66 => f_X12_byTurns_L51 kk 162 (nI nn) (nI (r 0)) f h62 j66 (nI j + (1 : Int32))) (nn := nn) (a := j) (iI v) hw hN hn (show j ≤ 8 by omega) hM
    have w0 := mvW_b hw (show N ≤ 2000 by omega) j
    have w2 := valT_b (nn - 1) false (mvH r j) (N + 1) (mvH_wf hw (by omega) j) (by omega)
    generalize hy : mvW r j + valT (nn - 1) false (mvH r j) = z at g1
    obtain ⟨J2, y, k1, k2⟩ := ih f (j + 1) J1 (pick true v z) (by omega) (by omega) (by rw [g2.row]; exact hM) (by rcases pick_or true v z with e | e <;> rw [e] <;> omega)
    refine ⟨J2, y, ?_, g2.tr k2⟩
    have lo : (if nI nn ≤ (1 : Int32) then some (nI (r 0)) else some (0 : Int32)) = some (nI (loT (nn - 1) (r 0))) := by
      have e : (nI nn ≤ (1 : Int32)) = (nn ≤ 1) := z_le (m := 1) (by omega) (by decide)
      unfold loT
      by_cases q : nn ≤ 1
      · rw [if_pos (e.mpr q), if_pos (by omega)]
      · rw [if_neg (fun z => q (e.mp z)), if_neg (by omega)]; rfl
    have le : (iI z ≤ iI v) = (z ≤ v) := iI_le (by unfold sm; omega) (by unfold sm; omega)
    rw [f_X12_byTurns_L51, if_neg (nI_nlt (show j ≤ r 0 by omega) (by omega)), lo, bA_s, g1, foldB]
    simp only [hy]
    rw [← k1, pick_t, z_i2]
    by_cases q : z ≤ v
    · rw [if_pos (le.mpr q), if_pos q, bA_s]
    · rw [if_neg (fun z => q (le.mp z)), if_neg q, bA_s]
theorem FT.fw (h : FT 0 I D I' D') : FW I D I' D' := ⟨fun x a b c => h.1 x a b (by omega), fun x a b => h.2 x a (by omega)⟩
theorem k_byTurns (h : Inv I D K n N) (hN : N ≤ 1900) (x : Int32) : GD Z N (enc I D K n Z) (fun h => f_X11_byTurns h 0 x) (fun h => f_X12_byTurns h 162 x) := by
  obtain ⟨r, hc, hM, hw⟩ := h.2.2.1
  obtain ⟨r18, r08⟩ := ho8 hw
  have hM' := thr_M (show 166 ≠ 162 by decide) hM
  have hin : ∀ h : Hp, f_X12_in h x.toInt64 (0 : Int64) (3 : Int64) = some (if (0 : Int) ≤ x.toInt ∧ x.toInt ≤ (3 : Nat) then 1 else 0, h) := fun h => in02 h x 3 (by decide) (by decide)
  by_cases hz : r 1 = 0
  · refine ⟨-1000002, enc I D K n Z, _, D, K, n, ?_, ?_, h.thr⟩
    · simp only [f_X11_byTurns, r0_3, bA_s, c9, c_stands9 h9 hc.1.1 r18, b2_s, if_pos hz, if_true]
    · simp only [f_X12_byTurns, p_thr, bA_s, c162, m_isThere hM' r18, b2_s, if_pos hz, if_true]
  · have hwf := st_wf hw hz
    by_cases hx : (0 : Int) ≤ x.toInt ∧ x.toInt ≤ (3 : Nat)
    · obtain ⟨x0, x3⟩ := yes0b (show 3 < 2 ^ 31 by decide) hx
      have x3 : x ≤ (3 : Int32) := x3
      obtain ⟨nn, hn4, rfl⟩ := (ix_in (x := x) (m := 4) (by decide)).mp ⟨hx.1, by omega⟩
      obtain ⟨I1, D1, b1, b2', b3', b4'⟩ := c_bd (I := I) (D := D) (K := K) (n := n) (Z := Z) h.2.2.2.2.2.2 hc hwf.le8.1 hwf.le8.2
      obtain ⟨I2, D2, k1, k2, k3⟩ := c_play (K := K) (n := n) (Z := Z) (show nn ≤ 3 by omega) nn 5 0 r N I1 D1 (by omega) (by omega) b4' b2' hwf (by omega) (fun k hk => by rw [b3'.2 28 (by omega)]; exact h.2.2.2.2.2.1.2.2.2 k hk)
      have k1 : fr_X11_playTurns 5 (enc I1 D1 K n Z) 0 (0 : Int32) (nI nn) = some (iI (valT nn true r), enc I2 D2 K n Z) := k1
      have fw : FW I D I2 D2 := b3'.fw.tr k2.fw
      have e166 : thr I2 166 = I 166 := by rw [thr_n (by decide), fw.1 166 (by omega) (by omega) (by omega)]
      have hM1 : MH (thr I2 166) r := by rw [e166]; exact hM
      have hlo := loT_le nn (r 0)
      obtain ⟨e, he⟩ : ∃ e, r 0 = loT nn (r 0) + e := ⟨r 0 - loT nn (r 0), by omega⟩
      obtain ⟨J, y, g1, g2⟩ := m_L51 (D := D2) (K := K) (n := n) (Z := Z) (fun y70 y71 h69 => some (y70, h69)) (nn := nn) hwf (by omega) (by omega) (e + 1) 2000 (loT nn (r 0)) (thr I2) (-1000000) (by omega) (by omega) hM1 (by omega)
      have t := top_is (f := fun a => mvW r a + valT (nn - 1) false (mvH r a)) (c := e) (lo := loT nn (r 0)) (fun k => by
        have w0 := mvW_b hwf (show N ≤ 2000 by omega) k
        have w2 := valT_b (nn - 1) false (mvH r k) (N + 1) (mvH_wf hwf (by omega) k) (by omega)
        show -1000 ≤ mvW r k + valT (nn - 1) false (mvH r k) ∧ mvW r k + valT (nn - 1) false (mvH r k) ≤ 1000
        omega)
      rw [← he] at t
      have v := lvl (b := true) (q := r) (m := nn) (d := r 0) (X := 0) rfl (lo := loT nn (r 0)) rfl (t.cong (fun k _ _ => by
        rw [if_pos rfl, Int.zero_add]; rfl))
      rw [v, Int.zero_add, show iI (-1000000) = (-1000000 : Int32) by decide] at g1
      have l0 : ald (enc (thr I2) D2 K n Z) 166 0 (0 : Int32) = some (nI (r 0)) := by
        have z := ald_n (I := thr I2) (D := D2) (K := K) (n := n) (Z := Z) s_166 0 (by decide) (by decide)
        rw [hM1 0 (by decide)] at z
        exact z
      have lo : (if nI nn ≤ (0 : Int32) then some (nI (r 0)) else some (0 : Int32)) = some (nI (loT nn (r 0))) := by
        have e : (nI nn ≤ (0 : Int32)) = (nn ≤ 0) := z_le (m := 0) (by omega) (by decide)
        unfold loT
        by_cases q : nn ≤ 0
        · rw [if_pos (e.mpr q), if_pos (by omega)]
        · rw [if_neg (fun z => q (e.mp z)), if_neg (by omega)]; rfl
      refine ⟨iI (valT nn true r), enc I2 D2 K n Z, J, D2, K, n, ?_, ?_, h.seen fw k3 (FM.thr.trans g2.1) (by rw [g2.2, thr_s (by decide), fw.1 162 (by omega) (by omega) (by omega)])⟩
      · simp only [f_X11_byTurns, r0_3, bA_s, c9, c_stands9 h9 hc.1.1 r18, b2_s, if_neg hz, if_neg one0, if_neg x0, if_pos x3, r0_6, c17, b1, c0, f_X11_playTurns, k1]
      · simp only [f_X12_byTurns, p_thr, bA_s, c162, m_isThere hM1 r18, b2_s, if_neg hz, if_neg one0, hin, if_pos hx, r162_5, l0, lo]
        exact g1
    · have e : ∀ (a c : Option (Int32 × Hp)), (if x < 0 then a else if x ≤ (3 : Int32) then c else a) = a := not0b (show 3 < 2 ^ 31 by decide) hx
      refine ⟨-1000001, enc I D K n Z, _, D, K, n, ?_, ?_, h.thr⟩
      · simp only [f_X11_byTurns, r0_3, bA_s, c9, c_stands9 h9 hc.1.1 r18, b2_s, if_neg hz, if_neg one0, e]
      · simp only [f_X12_byTurns, p_thr, bA_s, c162, m_isThere hM' r18, b2_s, if_neg hz, if_neg one0, hin, if_neg hx, if_true]
end Turns3
