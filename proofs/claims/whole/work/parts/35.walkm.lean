/-! THE REFERENCE'S ERRAND -/
def isRa (a : Nat) : Prop := a = 166 ∨ a = 168
theorem s_Ra {K : Nat → Nat} {n a : Nat} (h : isRa a) : shp K n a = some (.inr (.inl (0, 54))) := by
  rcases h with rfl | rfl
  · exact s_166
  · exact s_168
def MW (I : Nat → Nat → Int32) (ra : Nat) (s : WS) : Prop := MH (I ra) s.1 ∧ (I 162 21 = nI s.2.2.2.2.1.length ∧ I 162 22 = nI s.2.2.1 ∧ I 162 23 = nI s.2.2.2.1 ∧ I 162 24 = nI s.2.1) ∧ (∀ i, i < s.2.2.2.2.1.length → I 172 i = nI (s.2.2.2.2.1.getD i 0))
/-- what it may change -/
def FrM (ra : Nat) (I I' : Nat → Nat → Int32) : Prop := (∀ x, x ≠ 162 → x ≠ 172 → x ≠ ra → I' x = I x) ∧ (∀ j, (j < 21 ∨ 25 < j) → I' 162 j = I 162 j)
theorem FrM.rfl' {ra : Nat} {I : Nat → Nat → Int32} : FrM ra I I := ⟨fun _ _ _ _ => rfl, fun _ _ => rfl⟩
theorem FrM.trans {ra : Nat} {I I' J : Nat → Nat → Int32} (h : FrM ra I I') (h2 : FrM ra I' J) : FrM ra I J := ⟨fun x a b c => (h2.1 x a b c).trans (h.1 x a b c), fun j hj => (h2.2 j hj).trans (h.2 j hj)⟩
def gsum (r : Ro) (l : List Nat) : Nat := (l.map (gapN r)).sum
def GS (s : WS) : Prop := s.2.2.2.1 = gsum s.1 s.2.2.2.2.1
theorem gapN_u (r : Ro) (k v j : Nat) : gapN (uN r (18 + 5 * k) v) j = gapN r j := by
  unfold gapN; rw [uN_n _ (by omega)]
theorem gsum_u (r : Ro) (k v : Nat) (l : List Nat) : gsum (uN r (18 + 5 * k) v) l = gsum r l := by
  unfold gsum
  congr 1
  exact List.map_congr_left (fun j _ => gapN_u r k v j)
theorem gsum_app (r : Ro) (l : List Nat) (k : Nat) : gsum r (l ++ [k]) = gsum r l + gapN r k := by
  unfold gsum; simp
theorem GS_wOpen {s : WS} (h : GS s) (k : Nat) : GS (wOpen s k).1 := by
  unfold wOpen
  split
  · exact h
  · split
    · exact h
    · show s.2.2.2.1 + gapN s.1 k = gsum (uN s.1 (18 + 5 * k) (s.1 (18 + 5 * k) + 1)) (s.2.2.2.2.1 ++ [k])
      rw [gsum_u, gsum_app, ← h]
theorem GS_wPass {s : WS} (h : GS s) (x : Int32) : GS (wPass s x).1 := by
  unfold wPass
  split
  · unfold wPassK
    split
    · split
      · exact h
      · split
        · exact GS_wOpen h _
        · exact GS_wOpen h _
    · exact h
  · exact h
section WalkM
variable {I : Nat → Nat → Int32} {D : Nat → Nat → Option Nat} {K : Nat → Nat} {n : Nat} {Z : Nat → Cl} {ra k : Nat} {r : Ro}
theorem m_of (hR : isRa ra) (hM : MH (I ra) r) (hk : k < 8) {w : Nat} (hw : w < 5) : f_X12_of (enc I D K n Z) ra (nI k) (nI w) = some (nI (r (14 + w + 5 * k)), enc I D K n Z) := by
  simp only [f_X12_of, show (14 : Int32) = nI 14 from rfl, show (5 : Int32) = nI 5 from rfl, pk_mul, nI_add]
  rw [show 14 + 5 * k + w = 14 + w + 5 * k by omega, ald_n (s_Ra hR) _ (by omega) (by decide), bA_s, hM _ (by omega)]
theorem m_of0 (hR : isRa ra) (hM : MH (I ra) r) (hk : k < 8) : f_X12_of (enc I D K n Z) ra (nI k) (0 : Int32) = some (nI (r (14 + 5 * k)), enc I D K n Z) := m_of hR hM hk (w := 0) (by decide)
theorem m_of1 (hR : isRa ra) (hM : MH (I ra) r) (hk : k < 8) : f_X12_of (enc I D K n Z) ra (nI k) (1 : Int32) = some (nI (r (15 + 5 * k)), enc I D K n Z) := m_of hR hM hk (w := 1) (by decide)
theorem m_of2 (hR : isRa ra) (hM : MH (I ra) r) (hk : k < 8) : f_X12_of (enc I D K n Z) ra (nI k) (2 : Int32) = some (nI (r (16 + 5 * k)), enc I D K n Z) := m_of hR hM hk (w := 2) (by decide)
theorem m_of3 (hR : isRa ra) (hM : MH (I ra) r) (hk : k < 8) : f_X12_of (enc I D K n Z) ra (nI k) (3 : Int32) = some (nI (r (17 + 5 * k)), enc I D K n Z) := m_of hR hM hk (w := 3) (by decide)
theorem m_of4 (hR : isRa ra) (hM : MH (I ra) r) (hk : k < 8) : f_X12_of (enc I D K n Z) ra (nI k) (4 : Int32) = some (nI (r (18 + 5 * k)), enc I D K n Z) := m_of hR hM hk (w := 4) (by decide)
theorem m_be4 (hR : isRa ra) (hk : k < 8) (x : Int32) : f_X12_be (enc I D K n Z) ra (nI k) (4 : Int32) x = some (enc (va_up I ra (upd (I ra) (18 + 5 * k) x)) D K n Z) := by
  simp only [f_X12_be, show (14 : Int32) = nI 14 from rfl, show (5 : Int32) = nI 5 from rfl, show (4 : Int32) = nI 4 from rfl, pk_mul, nI_add]
  rw [show 14 + 5 * k + 4 = 18 + 5 * k by omega, ast_n (s_Ra hR) _ _ (by omega) (by decide), bA_s]
theorem MH.upd {f : Nat → Int32} (h : MH f r) (j v : Nat) : MH (upd f j (nI v)) (uN r j v) := by
  intro i hi
  by_cases e : i = j
  · subst e; rw [pk_us, uN_s]
  · rw [pk_un e, uN_n _ e]; exact h i hi
theorem m_loud (hR : isRa ra) (hM : MH (I ra) r) (hk : k < 8) (h1 : 1 ≤ r (14 + 5 * k)) (h5 : r (14 + 5 * k) ≤ 5) (hn : r (17 + 5 * k) ≤ 9) : f_X12_loudOf (enc I D K n Z) ra (nI k) = some (nI (loudN r k), enc I D K n Z) := by
  simp only [f_X12_loudOf, m_of3 hR hM hk, b2_s, m_of0 hR hM hk, m_of4 hR hM hk]
  unfold loudN
  rcases (show r (14 + 5 * k) = 1 ∨ r (14 + 5 * k) = 2 ∨ r (14 + 5 * k) = 3 ∨ r (14 + 5 * k) = 4 ∨ r (14 + 5 * k) = 5 by omega) with e | e | e | e | e <;> rw [e]
  · rfl
  · rw [if_neg (by decide), if_pos (by decide), if_neg (by decide), if_pos rfl]
    have := pk_div (a := r (17 + 5 * k)) (d := 2) (by omega) (by decide) (by decide)
    rw [show (2 : Int32) = nI 2 by decide, this]
  · rw [if_neg (by decide), if_neg (by decide), if_pos (by decide), if_neg (by decide), if_neg (by decide), if_pos rfl]
    rw [show (2 : Int32) = nI 2 by decide, pk_mul, nI_add]
  · rfl
  · rfl
theorem m_gap (hR : isRa ra) (hM : MH (I ra) r) (hk : k < 8) (h1 : 1 ≤ r (14 + 5 * k)) (h5 : r (14 + 5 * k) ≤ 5) : f_X12_gapOf (enc I D K n Z) ra (nI k) = some (nI (gapN r k), enc I D K n Z) := by
  simp only [f_X12_gapOf, b2_s, m_of0 hR hM hk]
  unfold gapN
  rcases (show r (14 + 5 * k) = 1 ∨ r (14 + 5 * k) = 2 ∨ r (14 + 5 * k) = 3 ∨ r (14 + 5 * k) = 4 ∨ r (14 + 5 * k) = 5 by omega) with e | e | e | e | e <;> rw [e] <;> rfl
theorem drop_cons {op : List Nat} {j : Nat} (h : j < op.length) : op.drop j = op.getD j 0 :: op.drop (j + 1) := by
  rw [List.drop_eq_getElem_cons h]
  simp [List.getD_eq_getElem?_getD, List.getElem?_eq_getElem h]
theorem getD_mem {op : List Nat} {j : Nat} (h : j < op.length) : op.getD j 0 ∈ op := by
  simp [List.getD_eq_getElem?_getD, List.getElem?_eq_getElem h]
theorem m_isOpen_L {op : List Nat} (h8 : op.length ≤ 8) (ho : ∀ j ∈ op, j < 8) (hk : k < 8) (h21 : I 162 21 = nI op.length) (h172 : ∀ i, i < op.length → I 172 i = nI (op.getD i 0)) (kk : Int32 → Hp → Option (Int32 × Hp)) : ∀ (m fuel j : Nat), j + m = op.length → m < fuel → f_X12_isOpen_L2 kk 162 (nI k) fuel (enc I D K n Z) (nI j) = if k ∈ op.drop j then some (1, enc I D K n Z) else kk (nI op.length) (enc I D K n Z) := by
  intro m
  induction m with
  | zero =>
    intro fuel j hj hf
    obtain ⟨f, rfl⟩ : ∃ f, fuel = f + 1 := ⟨fuel - 1, by omega⟩
    have e : j = op.length := by omega
    subst e
    rw [f_X12_isOpen_L2]
    simp only [g162_21, bA_s, h21]
    rw [if_pos (nI_le (by omega) (by omega)), List.drop_length, if_neg (by simp)]
  | succ m ih =>
    intro fuel j hj hf
    obtain ⟨f, rfl⟩ : ∃ f, fuel = f + 1 := ⟨fuel - 1, by omega⟩
    rw [f_X12_isOpen_L2]
    have hjl : j < op.length := by omega
    have hm := ho _ (getD_mem hjl)
    simp only [g162_21, bA_s, h21]
    rw [if_neg (nI_ge (by omega) (by omega))]
    simp only [r162_20, bA_s, ald_n s_172 j (by omega) (by decide), h172 j hjl, z_eq (show op.getD j 0 < 2 ^ 31 by omega) (show k < 2 ^ 31 by omega), z_i2]
    rw [drop_cons hjl]
    by_cases e : op.getD j 0 = k
    · rw [if_pos e, if_pos (by rw [e]; exact List.mem_cons_self)]
    · rw [if_neg e, ih f (j + 1) (by omega) (by omega)]
      have : (k ∈ op.getD j 0 :: op.drop (j + 1)) = (k ∈ op.drop (j + 1)) := by
        rw [List.mem_cons, eq_iff_iff]
        exact ⟨fun h => h.resolve_left (fun q => e q.symm), Or.inr⟩
      simp only [this]
theorem m_isOpen {op : List Nat} (h8 : op.length ≤ 8) (ho : ∀ j ∈ op, j < 8) (hk : k < 8) (h21 : I 162 21 = nI op.length) (h172 : ∀ i, i < op.length → I 172 i = nI (op.getD i 0)) : f_X12_isOpen (enc I D K n Z) 162 (nI k) = some (if k ∈ op then 1 else 0, enc I D K n Z) := by
  have := m_isOpen_L (D := D) (K := K) (n := n) (Z := Z) h8 ho hk h21 h172 (fun y10 h9 => some ((0 : Int32), h9)) op.length 2000 0 (by omega) (by omega)
  rw [List.drop_zero] at this
  refine this.trans ?_
  split <;> rfl
theorem m_dn_L (hR : isRa ra) (hM : MH (I ra) r) {op : List Nat} (h8 : op.length ≤ 8) (ho : ∀ j ∈ op, j < 8 ∧ 1 ≤ r (14 + 5 * j) ∧ r (14 + 5 * j) ≤ 5) (h21 : I 162 21 = nI op.length) (h172 : ∀ i, i < op.length → I 172 i = nI (op.getD i 0)) {β : Type} (kk : Int32 → Int32 → Hp → Option β) : ∀ (m fuel j t : Nat), j + m = op.length → m < fuel → f_X12_draughtNow_L4 kk 162 ra fuel (enc I D K n Z) (nI t) (nI j) = kk (nI (t + gsum r (op.drop j))) (nI op.length) (enc I D K n Z) := by
  intro m
  induction m with
  | zero =>
    intro fuel j t hj hf
    obtain ⟨f, rfl⟩ : ∃ f, fuel = f + 1 := ⟨fuel - 1, by omega⟩
    have e : j = op.length := by omega
    subst e
    rw [f_X12_draughtNow_L4]
    simp only [g162_21, bA_s, h21]
    rw [if_pos (nI_le (by omega) (by omega)), List.drop_length]
    rfl
  | succ m ih =>
    intro fuel j t hj hf
    obtain ⟨f, rfl⟩ : ∃ f, fuel = f + 1 := ⟨fuel - 1, by omega⟩
    rw [f_X12_draughtNow_L4]
    have hjl : j < op.length := by omega
    have hm := ho _ (getD_mem hjl)
    simp only [g162_21, bA_s, h21]
    rw [if_neg (nI_ge (by omega) (by omega))]
    simp only [r162_20, bA_s, ald_n s_172 j (by omega) (by decide), h172 j hjl, m_gap hR hM hm.1 hm.2.1 hm.2.2, b2_s, z_i2, nI_add]
    rw [drop_cons hjl, ih f (j + 1) _ (by omega) (by omega)]
    rw [show gsum r (op.getD j 0 :: op.drop (j + 1)) = gapN r (op.getD j 0) + gsum r (op.drop (j + 1)) by unfold gsum; simp, Nat.add_assoc]
theorem m_dn (hR : isRa ra) (hM : MH (I ra) r) {op : List Nat} (h8 : op.length ≤ 8) (ho : ∀ j ∈ op, j < 8 ∧ 1 ≤ r (14 + 5 * j) ∧ r (14 + 5 * j) ≤ 5) (h21 : I 162 21 = nI op.length) (h172 : ∀ i, i < op.length → I 172 i = nI (op.getD i 0)) : f_X12_draughtNow (enc I D K n Z) 162 ra = some (nI (gsum r op), enc I D K n Z) := by
  have := m_dn_L (D := D) (K := K) (n := n) (Z := Z) hR hM h8 ho h21 h172 (fun y17 y18 h16 => some (y17, h16)) op.length 2000 0 0 (by omega) (by omega)
  rw [List.drop_zero, Nat.zero_add] at this
  exact this
/-- opening's tail: the door is free -/
def mo_tail (h91 : Hp) (x0 : Nat) (x1 : Nat) (x2 : Int32) : Option (Int32 × Hp) := bA (gI h91 x0 11 22) fun g101 => b2 (f_X12_loudOf h91 x1 x2) fun r104 h102 => bA (pV h102 x0 11 22 (.inl (g101 + r104))) fun h111 => b2 (f_X12_of h111 x1 x2 (4 : Int32)) fun r114 h112 => bA (f_X12_be h112 x1 x2 (4 : Int32) (r114 + (1 : Int32))) fun h120 => bA (gN h120 x0 11 20) fun a129 => bA (gI h120 x0 11 21) fun g131 => bA (ast h120 a129 0 g131 x2) fun h132 => bA (gI h132 x0 11 21) fun g135 => bA (pV h132 x0 11 21 (.inl (g135 + (1 : Int32)))) fun h137 => bA (isC h137 x0 11) fun u144 => b2 (f_X12_draughtNow h137 x0 x1) fun r140 h138 => bA (gI h138 x0 11 23) fun g148 => bA (if r140 ≤ g148 then bA (gI h138 x0 11 23) fun g154 => some g154 else some r140) fun j150 => bA (pV h138 x0 11 23 (.inl j150)) fun h156 => bA (gI h156 x0 11 22) fun g158 => bA (ald h156 x1 0 (3 : Int32)) fun v159 => bA (if g158 ≤ v159 then bA (ald h156 x1 0 (2 : Int32)) fun v165 => (if r140 ≤ v165 then some (0 : Int32) else some (10 : Int32)) else some (9 : Int32)) fun j162 => some (j162, h156)
theorem mo_eq (h : Hp) (x0 : Nat) (x1 : Nat) (x2 : Int32) : f_X12_open h x0 x1 x2 = b2 (f_X12_of h x1 x2 (0 : Int32)) fun r3 h1 => bA (if r3 < (4 : Int32) then some (0 : Int32) else some (1 : Int32)) fun j10 => (if j10 = 0 then b2 (f_X12_of h1 x1 x2 (0 : Int32)) fun r16 h14 => (if r16 = (5 : Int32) then b2 (f_X12_of h14 x1 x2 (4 : Int32)) fun r93 h91 => (if r93 ≤ 0 then mo_tail h91 x0 x1 x2 else some ((8 : Int32), h91)) else mo_tail h14 x0 x1 x2) else bA (ald h1 x1 0 (4 : Int32)) fun v168 => b2 (f_X12_of h1 x1 x2 (3 : Int32)) fun r172 h170 => b2 (f_X12_has h170 v168 (r172 - r172 / (6 : Int32) * (6 : Int32))) fun r180 h178 => (if r180 = 0 then some ((7 : Int32), h178) else b2 (f_X12_of h178 x1 x2 (0 : Int32)) fun r189 h187 => (if r189 = (5 : Int32) then b2 (f_X12_of h187 x1 x2 (4 : Int32)) fun r266 h264 => (if r266 ≤ 0 then mo_tail h264 x0 x1 x2 else some ((8 : Int32), h264)) else mo_tail h187 x0 x1 x2))) := rfl
theorem m_max {a b : Nat} (h : b ≤ a) (ha : a < 2 ^ 31) : (if nI a ≤ nI b then some (nI b) else some (nI a)) = some (nI a) := by
  simp only [z_le ha (show b < 2 ^ 31 by omega)]
  by_cases e : a ≤ b
  · rw [if_pos e, Nat.le_antisymm h e]
  · rw [if_neg e]
set_option maxRecDepth 100000 in
set_option maxHeartbeats 4000000 in
theorem m_tail (hR : isRa ra) {s : WS} {N : Nat} (hs : MW I ra s) (hok : WOK s N) (hg : GS s) (hk : k < s.1 0) (hn : k ∉ s.2.2.2.2.1) : ∃ I', mo_tail (enc I D K n Z) 162 ra (nI k) = some (nI (if s.1 3 < s.2.2.1 + loudN s.1 k then 9 else if s.1 2 < s.2.2.2.1 + gapN s.1 k then 10 else 0), enc I' D K n Z) ∧ MW I' ra (opened s k) ∧ FrM ra I I' ∧ I' 162 25 = I 162 25 := by
  have hok' := WOK_opened hok hk hn
  have hlen' := hok'.len
  have hgs' : gsum (opened s k).1 (opened s k).2.2.2.2.1 = s.2.2.2.1 + gapN s.1 k := by
    show gsum (uN s.1 (18 + 5 * k) (s.1 (18 + 5 * k) + 1)) (s.2.2.2.2.1 ++ [k]) = _
    rw [gsum_u, gsum_app, ← hg]
  obtain ⟨q1, q2, q3, q4, ⟨q5, q5'⟩, q6, q7, q8⟩ := hok'
  obtain ⟨u1, u2, u3, u4, u5, u6⟩ := hok.1.2.2.2.2.2.2 k hk
  have hd8 := hok.1.2.1.2
  have hk8 : k < 8 := by omega
  obtain ⟨hM, ⟨h21, h22, h23, h24⟩, h172⟩ := hs
  have hl1 : (opened s k).2.2.2.2.1.length = s.2.2.2.2.1.length + 1 := by simp [opened]
  have hno := hok.2.2.1
  have hdr := hok.2.2.2.1
  have hlen : s.2.2.2.2.1.length ≤ 8 := hok.len
  have hq3 : s.2.2.1 + loudN s.1 k ≤ 6000 * (opened s k).2.2.2.2.1.length := q3
  have hq4 : s.2.2.2.1 + gapN s.1 k ≤ 2 * (opened s k).2.2.2.2.1.length := q4
  have hra : ra ≠ 162 ∧ ra ≠ 172 := by rcases hR with rfl | rfl <;> omega
  simp only [mo_tail, g162_22, bA_s, m_loud hR hM hk8 u1.1 u1.2 u5, b2_s, p162_22, h22, nI_add]
  generalize hI1 : va_up I 162 (upd (I 162) 22 (nI (s.2.2.1 + loudN s.1 k))) = I1
  have f1 : ∀ x, x ≠ 162 → I1 x = I x := fun x hx => by rw [← hI1, va_up_ne _ _ hx]
  have f1a : I1 162 = upd (I 162) 22 (nI (s.2.2.1 + loudN s.1 k)) := by rw [← hI1, va_up_self]
  have hM1 : MH (I1 ra) s.1 := by rw [f1 ra hra.1]; exact hM
  simp only [m_of4 hR hM1 hk8, b2_s, z_i2, m_be4 hR hk8, bA_s, f1 ra hra.1]
  generalize hI2 : va_up I1 ra (upd (I ra) (18 + 5 * k) (nI (s.1 (18 + 5 * k) + 1))) = I2
  have f2 : ∀ x, x ≠ ra → I2 x = I1 x := fun x hx => by rw [← hI2, va_up_ne _ _ hx]
  have f2a : I2 ra = upd (I ra) (18 + 5 * k) (nI (s.1 (18 + 5 * k) + 1)) := by rw [← hI2, va_up_self]
  have f2b : I2 162 = upd (I 162) 22 (nI (s.2.2.1 + loudN s.1 k)) := by rw [f2 162 (Ne.symm hra.1), f1a]
  have f2c : I2 172 = I 172 := by rw [f2 172 (Ne.symm hra.2), f1 172 (by decide)]
  simp only [r162_20, g162_21, bA_s, f2b, pk_un (show 21 ≠ 22 by decide), h21, ast_n s_172 s.2.2.2.2.1.length _ (show s.2.2.2.2.1.length < 8 by omega) (by decide), f2c]
  generalize hI3 : va_up I2 172 (upd (I 172) s.2.2.2.2.1.length (nI k)) = I3
  have f3 : ∀ x, x ≠ 172 → I3 x = I2 x := fun x hx => by rw [← hI3, va_up_ne _ _ hx]
  have f3a : I3 172 = upd (I 172) s.2.2.2.2.1.length (nI k) := by rw [← hI3, va_up_self]
  simp only [g162_21, p162_21, bA_s, f3 162 (by decide), f2b, pk_un (show 21 ≠ 22 by decide), h21, z_i2]
  generalize hI4 : va_up I3 162 (upd (upd (I 162) 22 (nI (s.2.2.1 + loudN s.1 k))) 21 (nI (s.2.2.2.2.1.length + 1))) = I4
  have f4 : ∀ x, x ≠ 162 → I4 x = I3 x := fun x hx => by rw [← hI4, va_up_ne _ _ hx]
  have f4a : I4 162 = upd (upd (I 162) 22 (nI (s.2.2.1 + loudN s.1 k))) 21 (nI (s.2.2.2.2.1.length + 1)) := by rw [← hI4, va_up_self]
  have f4r : I4 ra = upd (I ra) (18 + 5 * k) (nI (s.1 (18 + 5 * k) + 1)) := by rw [f4 ra hra.1, f3 ra hra.2, f2a]
  have f4o : I4 172 = upd (I 172) s.2.2.2.2.1.length (nI k) := by rw [f4 172 (by decide), f3a]
  have hM4 : MH (I4 ra) (opened s k).1 := by rw [f4r]; exact hM.upd _ _
  have h421 : I4 162 21 = nI (opened s k).2.2.2.2.1.length := by rw [f4a, pk_us, hl1]
  have h4172 : ∀ i, i < (opened s k).2.2.2.2.1.length → I4 172 i = nI ((opened s k).2.2.2.2.1.getD i 0) := by
    intro i hi
    rw [f4o]
    show _ = nI ((s.2.2.2.2.1 ++ [k]).getD i 0)
    by_cases e : i = s.2.2.2.2.1.length
    · subst e; rw [pk_us, getD_app_eq]
    · rw [pk_un e, getD_app_lt (by omega)]; exact h172 i (by omega)
  have hop : ∀ j ∈ (opened s k).2.2.2.2.1, j < 8 ∧ 1 ≤ (opened s k).1 (14 + 5 * j) ∧ (opened s k).1 (14 + 5 * j) ≤ 5 := by
    intro j hj
    have h1 := q5' j hj
    have h2 := q1.2.1.2
    exact ⟨by omega, (q1.2.2.2.2.2.2 j h1).1⟩
  simp only [c162, bA_s, m_dn hR hM4 hlen' hop h421 h4172, b2_s, hgs', g162_23, f4a, pk_un (show 23 ≠ 22 by decide), pk_un (show 23 ≠ 21 by decide), h23, m_max (Nat.le_add_right s.2.2.2.1 (gapN s.1 k)) (by omega), p162_23]
  generalize hI5 : va_up I4 162 (upd (upd (upd (I 162) 22 (nI (s.2.2.1 + loudN s.1 k))) 21 (nI (s.2.2.2.2.1.length + 1))) 23 (nI (s.2.2.2.1 + gapN s.1 k))) = I5
  have f5 : ∀ x, x ≠ 162 → I5 x = I4 x := fun x hx => by rw [← hI5, va_up_ne _ _ hx]
  have f5a : I5 162 = upd (upd (upd (I 162) 22 (nI (s.2.2.1 + loudN s.1 k))) 21 (nI (s.2.2.2.2.1.length + 1))) 23 (nI (s.2.2.2.1 + gapN s.1 k)) := by rw [← hI5, va_up_self]
  have hM5 : MH (I5 ra) (opened s k).1 := by rw [f5 ra hra.1]; exact hM4
  have e3 : I5 ra 3 = nI (s.1 3) := (hM5 3 (by decide)).trans (congrArg nI (uN_n _ (by omega)))
  have e2 : I5 ra 2 = nI (s.1 2) := (hM5 2 (by decide)).trans (congrArg nI (uN_n _ (by omega)))
  have l3 : ald (enc I5 D K n Z) ra 0 (3 : Int32) = some (nI (s.1 3)) := by rw [← e3]; exact ald_n (s_Ra hR) 3 (by decide) (by decide)
  have l2 : ald (enc I5 D K n Z) ra 0 (2 : Int32) = some (nI (s.1 2)) := by rw [← e2]; exact ald_n (s_Ra hR) 2 (by decide) (by decide)
  have w3 := hok.1.2.2.1.2
  have w4 := hok.1.2.2.2.1.2
  simp only [g162_22, bA_s, l3, l2, f5a, pk_un (show 22 ≠ 23 by decide), pk_un (show 22 ≠ 21 by decide), pk_us, z_le (show s.2.2.1 + loudN s.1 k < 2 ^ 31 by omega) (show s.1 3 < 2 ^ 31 by omega), z_le (show s.2.2.2.1 + gapN s.1 k < 2 ^ 31 by omega) (show s.1 2 < 2 ^ 31 by omega)]
  refine ⟨I5, ?_, ⟨hM5, ⟨?_, ?_, ?_, ?_⟩, ?_⟩, ⟨?_, ?_⟩, ?_⟩
  · by_cases c1 : s.2.2.1 + loudN s.1 k ≤ s.1 3
    · rw [if_pos c1, if_neg (show ¬ s.1 3 < s.2.2.1 + loudN s.1 k by omega)]
      by_cases c2 : s.2.2.2.1 + gapN s.1 k ≤ s.1 2
      · rw [if_pos c2, if_neg (show ¬ s.1 2 < s.2.2.2.1 + gapN s.1 k by omega)]; rfl
      · rw [if_neg c2, if_pos (show s.1 2 < s.2.2.2.1 + gapN s.1 k by omega)]; rfl
    · rw [if_neg c1, if_pos (show s.1 3 < s.2.2.1 + loudN s.1 k by omega)]; rfl
  · rw [f5a, pk_un (by decide), pk_us, hl1]
  · rw [f5a, pk_un (by decide), pk_un (by decide), pk_us]; rfl
  · rw [f5a, pk_us]; rfl
  · rw [f5a, pk_un (by decide), pk_un (by decide), pk_un (by decide), h24]; rfl
  · intro i hi; rw [f5 172 (by decide)]; exact h4172 i hi
  · intro x a b c; rw [f5 x a, f4 x a, f3 x b, f2 x c, f1 x a]
  · intro j hj; rw [f5a, pk_un (by omega), pk_un (by omega), pk_un (by omega)]
  · rw [f5a, pk_un (by decide), pk_un (by decide), pk_un (by decide)]
end WalkM
