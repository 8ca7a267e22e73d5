/-! THE LAW: call by call -/
theorem pv_first {α : Type} {h : Hp} {v : Vl} {f : Hp → Option α} {y : α} (e : bA (pV h 162 11 0 v) f = some y) : isC h 162 11 = some () := by
  obtain ⟨h2, e1, -⟩ := bA_some e
  obtain ⟨fs, e2, -, -⟩ := pV_some e1
  simp [isC, e2]
theorem gd_go {α : Type} {Z : Nat → Cl} {N : Nat} {h : Hp} {F G : Hp → Option (α × Hp)} (g : GD Z N h F G) (hG : ∀ h y, G h = some y → isC h 162 11 = some ()) : ∃ r h1 I2 D2 K2 n2, F h = some (r, h1) ∧ isC h1 162 11 = some () ∧ G h1 = some (r, enc I2 D2 K2 n2 Z) ∧ Inv I2 D2 K2 n2 (N + 1) := by
  obtain ⟨r, h1, I2, D2, K2, n2, e1, e2, e3⟩ := g
  exact ⟨r, h1, I2, D2, K2, n2, e1, hG _ _ e2, e2, e3⟩
theorem lgc_self (x : Int64) : lg_cmp x x = 0 := by
  unfold lg_cmp
  rw [if_neg (by rw [gt_iff_lt, Int64.lt_iff_toInt_lt]; omega), if_pos rfl]
theorem sget_n (xs : Nat → Int32) {L m j : Nat} (hL : 7 * m + 7 ≤ L) (hl : L ≤ 3584) (hj : j < 7) : sget xs L (nI (7 * m) + nI j) = some (xs (7 * m + j)) := by
  rw [nI_add, sget, nI_clamp (show 7 * m + j < 2 ^ 31 by omega), if_neg]
  rw [z_neg (show 7 * m + j < 2 ^ 31 by omega), false_or]
  omega
theorem sget_n0 (xs : Nat → Int32) {L m : Nat} (hL : 7 * m + 7 ≤ L) (hl : L ≤ 3584) : sget xs L (nI (7 * m)) = some (xs (7 * m)) := by
  have q := sget_n xs hL hl (j := 0) (by decide)
  rw [nI_add, Nat.add_zero] at q
  exact q
theorem sget_n1 (xs : Nat → Int32) {L m : Nat} (hL : 7 * m + 7 ≤ L) (hl : L ≤ 3584) : sget xs L (nI (7 * m) + (1 : Int32)) = some (xs (7 * m + 1)) := sget_n xs hL hl (j := 1) (by decide)
theorem sget_n2 (xs : Nat → Int32) {L m : Nat} (hL : 7 * m + 7 ≤ L) (hl : L ≤ 3584) : sget xs L (nI (7 * m) + (2 : Int32)) = some (xs (7 * m + 2)) := sget_n xs hL hl (j := 2) (by decide)
theorem sget_n3 (xs : Nat → Int32) {L m : Nat} (hL : 7 * m + 7 ≤ L) (hl : L ≤ 3584) : sget xs L (nI (7 * m) + (3 : Int32)) = some (xs (7 * m + 3)) := sget_n xs hL hl (j := 3) (by decide)
theorem sget_n4 (xs : Nat → Int32) {L m : Nat} (hL : 7 * m + 7 ≤ L) (hl : L ≤ 3584) : sget xs L (nI (7 * m) + (4 : Int32)) = some (xs (7 * m + 4)) := sget_n xs hL hl (j := 4) (by decide)
theorem sget_n5 (xs : Nat → Int32) {L m : Nat} (hL : 7 * m + 7 ≤ L) (hl : L ≤ 3584) : sget xs L (nI (7 * m) + (5 : Int32)) = some (xs (7 * m + 5)) := sget_n xs hL hl (j := 5) (by decide)
theorem sget_n6 (xs : Nat → Int32) {L m : Nat} (hL : 7 * m + 7 ≤ L) (hl : L ≤ 3584) : sget xs L (nI (7 * m) + (6 : Int32)) = some (xs (7 * m + 6)) := sget_n xs hL hl (j := 6) (by decide)
section LawCalls
variable {I : Nat → Nat → Int32} {D : Nat → Nat → Option Nat} {K : Nat → Nat} {n : Nat} {Z : Nat → Cl}
theorem st_row {kk : Int32 → Hp → Option (Int32 × Hp)} {xs : Nat → Int32} {L fuel m : Nat} (hI : Inv I D K n m) (hm : m ≤ 600) (hL : 7 * m + 7 ≤ L) (hl : L ≤ 3584) (ih : ∀ (I : Nat → Nat → Int32) (D : Nat → Nat → Option Nat) (K : Nat → Nat) (n : Nat), Inv I D K n (m + 1) → ∃ h', f_L_law_L18 kk xs L 0 162 fuel (enc I D K n Z) (nI (7 * m) + (7 : Int32)) = some ((1 : Int32), h')) : ∃ h', (bA (sget xs L (nI (7 * m) + (1 : Int32))) fun v26 => bA (sget xs L (nI (7 * m) + (2 : Int32))) fun v28 => bA (sget xs L (nI (7 * m) + (3 : Int32))) fun v30 => bA (isC (enc I D K n Z) 0 10) fun u38 => b2 (f_X11_row (enc I D K n Z) 0 v26 v28 v30) fun r34 h32 => bA (sget xs L (nI (7 * m) + (1 : Int32))) fun v41 => bA (sget xs L (nI (7 * m) + (2 : Int32))) fun v43 => bA (sget xs L (nI (7 * m) + (3 : Int32))) fun v45 => bA (isC h32 162 11) fun u53 => b2 (f_X12_row h32 162 v41 v43 v45) fun r49 h47 => (if r34 = r49 then f_L_law_L18 kk xs L 0 162 fuel h47 (nI (7 * m) + (7 : Int32)) else some ((0 : Int32), h47))) = some ((1 : Int32), h') := by
  obtain ⟨r, h1, I2, D2, K2, n2, e1, e2, e3, e4⟩ := gd_go (k_row (Z := Z) hI (xs (7 * m + 1)) (xs (7 * m + 2)) (xs (7 * m + 3))) (fun h y e => pv_first e)
  have e1 : f_X11_row (enc I D K n Z) 0 (xs (7 * m + 1)) (xs (7 * m + 2)) (xs (7 * m + 3)) = some (r, h1) := e1
  have e3 : f_X12_row h1 162 (xs (7 * m + 1)) (xs (7 * m + 2)) (xs (7 * m + 3)) = some (r, enc I2 D2 K2 n2 Z) := e3
  obtain ⟨h', e⟩ := ih I2 D2 K2 n2 e4
  refine ⟨h', ?_⟩
  simp only [sget_n1 xs hL hl, sget_n2 xs hL hl, sget_n3 xs hL hl, bA_s, c0, e1, b2_s, e2, e3, if_true]
  exact e
theorem st_set {kk : Int32 → Hp → Option (Int32 × Hp)} {xs : Nat → Int32} {L fuel m : Nat} (hI : Inv I D K n m) (hm : m ≤ 600) (hL : 7 * m + 7 ≤ L) (hl : L ≤ 3584) (ih : ∀ (I : Nat → Nat → Int32) (D : Nat → Nat → Option Nat) (K : Nat → Nat) (n : Nat), Inv I D K n (m + 1) → ∃ h', f_L_law_L18 kk xs L 0 162 fuel (enc I D K n Z) (nI (7 * m) + (7 : Int32)) = some ((1 : Int32), h')) : ∃ h', (bA (sget xs L (nI (7 * m) + (1 : Int32))) fun v58 => bA (sget xs L (nI (7 * m) + (2 : Int32))) fun v60 => bA (sget xs L (nI (7 * m) + (3 : Int32))) fun v62 => bA (isC (enc I D K n Z) 0 10) fun u70 => b2 (f_X11_set (enc I D K n Z) 0 v58 v60 v62) fun r66 h64 => bA (sget xs L (nI (7 * m) + (1 : Int32))) fun v73 => bA (sget xs L (nI (7 * m) + (2 : Int32))) fun v75 => bA (sget xs L (nI (7 * m) + (3 : Int32))) fun v77 => bA (isC h64 162 11) fun u85 => b2 (f_X12_set h64 162 v73 v75 v77) fun r81 h79 => (if r66 = r81 then f_L_law_L18 kk xs L 0 162 fuel h79 (nI (7 * m) + (7 : Int32)) else some ((0 : Int32), h79))) = some ((1 : Int32), h') := by
  obtain ⟨r, h1, I2, D2, K2, n2, e1, e2, e3, e4⟩ := gd_go (k_set (Z := Z) hI (xs (7 * m + 1)) (xs (7 * m + 2)) (xs (7 * m + 3))) (fun h y e => pv_first e)
  have e1 : f_X11_set (enc I D K n Z) 0 (xs (7 * m + 1)) (xs (7 * m + 2)) (xs (7 * m + 3)) = some (r, h1) := e1
  have e3 : f_X12_set h1 162 (xs (7 * m + 1)) (xs (7 * m + 2)) (xs (7 * m + 3)) = some (r, enc I2 D2 K2 n2 Z) := e3
  obtain ⟨h', e⟩ := ih I2 D2 K2 n2 e4
  refine ⟨h', ?_⟩
  simp only [sget_n1 xs hL hl, sget_n2 xs hL hl, sget_n3 xs hL hl, bA_s, c0, e1, b2_s, e2, e3, if_true]
  exact e
theorem st_copy {kk : Int32 → Hp → Option (Int32 × Hp)} {xs : Nat → Int32} {L fuel m : Nat} (hI : Inv I D K n m) (hm : m ≤ 600) (hL : 7 * m + 7 ≤ L) (hl : L ≤ 3584) (ih : ∀ (I : Nat → Nat → Int32) (D : Nat → Nat → Option Nat) (K : Nat → Nat) (n : Nat), Inv I D K n (m + 1) → ∃ h', f_L_law_L18 kk xs L 0 162 fuel (enc I D K n Z) (nI (7 * m) + (7 : Int32)) = some ((1 : Int32), h')) : ∃ h', (bA (sget xs L (nI (7 * m) + (1 : Int32))) fun v90 => bA (sget xs L (nI (7 * m) + (2 : Int32))) fun v92 => bA (sget xs L (nI (7 * m) + (3 : Int32))) fun v94 => bA (sget xs L (nI (7 * m) + (4 : Int32))) fun v96 => bA (sget xs L (nI (7 * m) + (5 : Int32))) fun v98 => bA (isC (enc I D K n Z) 0 10) fun u106 => b2 (f_X11_copy (enc I D K n Z) 0 v90 v92 v94 v96 v98) fun r102 h100 => bA (sget xs L (nI (7 * m) + (1 : Int32))) fun v109 => bA (sget xs L (nI (7 * m) + (2 : Int32))) fun v111 => bA (sget xs L (nI (7 * m) + (3 : Int32))) fun v113 => bA (sget xs L (nI (7 * m) + (4 : Int32))) fun v115 => bA (sget xs L (nI (7 * m) + (5 : Int32))) fun v117 => bA (isC h100 162 11) fun u125 => b2 (f_X12_copy h100 162 v109 v111 v113 v115 v117) fun r121 h119 => (if r102 = r121 then f_L_law_L18 kk xs L 0 162 fuel h119 (nI (7 * m) + (7 : Int32)) else some ((0 : Int32), h119))) = some ((1 : Int32), h') := by
  obtain ⟨r, h1, I2, D2, K2, n2, e1, e2, e3, e4⟩ := gd_go (k_copy (Z := Z) hI (xs (7 * m + 1)) (xs (7 * m + 2)) (xs (7 * m + 3)) (xs (7 * m + 4)) (xs (7 * m + 5))) (fun h y e => pv_first e)
  have e1 : f_X11_copy (enc I D K n Z) 0 (xs (7 * m + 1)) (xs (7 * m + 2)) (xs (7 * m + 3)) (xs (7 * m + 4)) (xs (7 * m + 5)) = some (r, h1) := e1
  have e3 : f_X12_copy h1 162 (xs (7 * m + 1)) (xs (7 * m + 2)) (xs (7 * m + 3)) (xs (7 * m + 4)) (xs (7 * m + 5)) = some (r, enc I2 D2 K2 n2 Z) := e3
  obtain ⟨h', e⟩ := ih I2 D2 K2 n2 e4
  refine ⟨h', ?_⟩
  simp only [sget_n1 xs hL hl, sget_n2 xs hL hl, sget_n3 xs hL hl, sget_n4 xs hL hl, sget_n5 xs hL hl, bA_s, c0, e1, b2_s, e2, e3, if_true]
  exact e
theorem st_drop {kk : Int32 → Hp → Option (Int32 × Hp)} {xs : Nat → Int32} {L fuel m : Nat} (hI : Inv I D K n m) (hm : m ≤ 600) (hL : 7 * m + 7 ≤ L) (hl : L ≤ 3584) (ih : ∀ (I : Nat → Nat → Int32) (D : Nat → Nat → Option Nat) (K : Nat → Nat) (n : Nat), Inv I D K n (m + 1) → ∃ h', f_L_law_L18 kk xs L 0 162 fuel (enc I D K n Z) (nI (7 * m) + (7 : Int32)) = some ((1 : Int32), h')) : ∃ h', (bA (sget xs L (nI (7 * m) + (1 : Int32))) fun v130 => bA (isC (enc I D K n Z) 0 10) fun u138 => b2 (f_X11_drop (enc I D K n Z) 0 v130) fun r134 h132 => bA (sget xs L (nI (7 * m) + (1 : Int32))) fun v141 => bA (isC h132 162 11) fun u149 => b2 (f_X12_drop h132 162 v141) fun r145 h143 => (if r134 = r145 then f_L_law_L18 kk xs L 0 162 fuel h143 (nI (7 * m) + (7 : Int32)) else some ((0 : Int32), h143))) = some ((1 : Int32), h') := by
  obtain ⟨r, h1, I2, D2, K2, n2, e1, e2, e3, e4⟩ := gd_go (k_drop (Z := Z) hI (xs (7 * m + 1))) (fun h y e => pv_first e)
  have e1 : f_X11_drop (enc I D K n Z) 0 (xs (7 * m + 1)) = some (r, h1) := e1
  have e3 : f_X12_drop h1 162 (xs (7 * m + 1)) = some (r, enc I2 D2 K2 n2 Z) := e3
  obtain ⟨h', e⟩ := ih I2 D2 K2 n2 e4
  refine ⟨h', ?_⟩
  simp only [sget_n1 xs hL hl, bA_s, c0, e1, b2_s, e2, e3, if_true]
  exact e
theorem st_feed {kk : Int32 → Hp → Option (Int32 × Hp)} {xs : Nat → Int32} {L fuel m : Nat} (hI : Inv I D K n m) (hm : m ≤ 600) (hL : 7 * m + 7 ≤ L) (hl : L ≤ 3584) (ih : ∀ (I : Nat → Nat → Int32) (D : Nat → Nat → Option Nat) (K : Nat → Nat) (n : Nat), Inv I D K n (m + 1) → ∃ h', f_L_law_L18 kk xs L 0 162 fuel (enc I D K n Z) (nI (7 * m) + (7 : Int32)) = some ((1 : Int32), h')) : ∃ h', (bA (sget xs L (nI (7 * m) + (1 : Int32))) fun v154 => bA (isC (enc I D K n Z) 0 10) fun u162 => b2 (f_X11_feed (enc I D K n Z) 0 v154) fun r158 h156 => bA (sget xs L (nI (7 * m) + (1 : Int32))) fun v165 => bA (isC h156 162 11) fun u173 => b2 (f_X12_feed h156 162 v165) fun r169 h167 => (if r158 = r169 then f_L_law_L18 kk xs L 0 162 fuel h167 (nI (7 * m) + (7 : Int32)) else some ((0 : Int32), h167))) = some ((1 : Int32), h') := by
  obtain ⟨r, h1, I2, D2, K2, n2, e1, e2, e3, e4⟩ := gd_go (k_feed (Z := Z) hI (xs (7 * m + 1))) (fun h y e => pv_first e)
  have e1 : f_X11_feed (enc I D K n Z) 0 (xs (7 * m + 1)) = some (r, h1) := e1
  have e3 : f_X12_feed h1 162 (xs (7 * m + 1)) = some (r, enc I2 D2 K2 n2 Z) := e3
  obtain ⟨h', e⟩ := ih I2 D2 K2 n2 e4
  refine ⟨h', ?_⟩
  simp only [sget_n1 xs hL hl, bA_s, c0, e1, b2_s, e2, e3, if_true]
  exact e
theorem st_house {kk : Int32 → Hp → Option (Int32 × Hp)} {xs : Nat → Int32} {L fuel m : Nat} (hI : Inv I D K n m) (hm : m ≤ 600) (hL : 7 * m + 7 ≤ L) (hl : L ≤ 3584) (ih : ∀ (I : Nat → Nat → Int32) (D : Nat → Nat → Option Nat) (K : Nat → Nat) (n : Nat), Inv I D K n (m + 1) → ∃ h', f_L_law_L18 kk xs L 0 162 fuel (enc I D K n Z) (nI (7 * m) + (7 : Int32)) = some ((1 : Int32), h')) : ∃ h', (bA (isC (enc I D K n Z) 0 10) fun u184 => b2 (f_X11_house (enc I D K n Z) 0 ) fun r180 h178 => bA (isC h178 162 11) fun u193 => b2 (f_X12_house h178 162 ) fun r189 h187 => (if r180 = r189 then f_L_law_L18 kk xs L 0 162 fuel h187 (nI (7 * m) + (7 : Int32)) else some ((0 : Int32), h187))) = some ((1 : Int32), h') := by
  obtain ⟨r, h1, I2, D2, K2, n2, e1, e2, e3, e4⟩ := gd_go (k_house (Z := Z) hI ) (fun h y e => pv_first e)
  have e1 : f_X11_house (enc I D K n Z) 0  = some (r, h1) := e1
  have e3 : f_X12_house h1 162  = some (r, enc I2 D2 K2 n2 Z) := e3
  obtain ⟨h', e⟩ := ih I2 D2 K2 n2 e4
  refine ⟨h', ?_⟩
  simp only [bA_s, c0, e1, b2_s, e2, e3, if_true]
  exact e
theorem st_fault {kk : Int32 → Hp → Option (Int32 × Hp)} {xs : Nat → Int32} {L fuel m : Nat} (hI : Inv I D K n m) (hm : m ≤ 600) (hL : 7 * m + 7 ≤ L) (hl : L ≤ 3584) (ih : ∀ (I : Nat → Nat → Int32) (D : Nat → Nat → Option Nat) (K : Nat → Nat) (n : Nat), Inv I D K n (m + 1) → ∃ h', f_L_law_L18 kk xs L 0 162 fuel (enc I D K n Z) (nI (7 * m) + (7 : Int32)) = some ((1 : Int32), h')) : ∃ h', (bA (isC (enc I D K n Z) 0 10) fun u204 => b2 (f_X11_fault (enc I D K n Z) 0 ) fun r200 h198 => bA (isC h198 162 11) fun u213 => b2 (f_X12_fault h198 162 ) fun r209 h207 => (if r200 = r209 then f_L_law_L18 kk xs L 0 162 fuel h207 (nI (7 * m) + (7 : Int32)) else some ((0 : Int32), h207))) = some ((1 : Int32), h') := by
  obtain ⟨r, h1, I2, D2, K2, n2, e1, e2, e3, e4⟩ := gd_go (k_fault (Z := Z) hI ) (fun h y e => pv_first e)
  have e1 : f_X11_fault (enc I D K n Z) 0  = some (r, h1) := e1
  have e3 : f_X12_fault h1 162  = some (r, enc I2 D2 K2 n2 Z) := e3
  obtain ⟨h', e⟩ := ih I2 D2 K2 n2 e4
  refine ⟨h', ?_⟩
  simp only [bA_s, c0, e1, b2_s, e2, e3, if_true]
  exact e
theorem st_undo {kk : Int32 → Hp → Option (Int32 × Hp)} {xs : Nat → Int32} {L fuel m : Nat} (hI : Inv I D K n m) (hm : m ≤ 600) (hL : 7 * m + 7 ≤ L) (hl : L ≤ 3584) (ih : ∀ (I : Nat → Nat → Int32) (D : Nat → Nat → Option Nat) (K : Nat → Nat) (n : Nat), Inv I D K n (m + 1) → ∃ h', f_L_law_L18 kk xs L 0 162 fuel (enc I D K n Z) (nI (7 * m) + (7 : Int32)) = some ((1 : Int32), h')) : ∃ h', (bA (isC (enc I D K n Z) 0 10) fun u224 => b2 (f_X11_undo (enc I D K n Z) 0 ) fun r220 h218 => bA (isC h218 162 11) fun u233 => b2 (f_X12_undo h218 162 ) fun r229 h227 => (if r220 = r229 then f_L_law_L18 kk xs L 0 162 fuel h227 (nI (7 * m) + (7 : Int32)) else some ((0 : Int32), h227))) = some ((1 : Int32), h') := by
  obtain ⟨r, h1, I2, D2, K2, n2, e1, e2, e3, e4⟩ := gd_go (k_undo (Z := Z) hI ) (fun h y e => pv_first e)
  have e1 : f_X11_undo (enc I D K n Z) 0  = some (r, h1) := e1
  have e3 : f_X12_undo h1 162  = some (r, enc I2 D2 K2 n2 Z) := e3
  obtain ⟨h', e⟩ := ih I2 D2 K2 n2 e4
  refine ⟨h', ?_⟩
  simp only [bA_s, c0, e1, b2_s, e2, e3, if_true]
  exact e
theorem st_errand {kk : Int32 → Hp → Option (Int32 × Hp)} {xs : Nat → Int32} {L fuel m : Nat} (hI : Inv I D K n m) (hm : m ≤ 600) (hL : 7 * m + 7 ≤ L) (hl : L ≤ 3584) (ih : ∀ (I : Nat → Nat → Int32) (D : Nat → Nat → Option Nat) (K : Nat → Nat) (n : Nat), Inv I D K n (m + 1) → ∃ h', f_L_law_L18 kk xs L 0 162 fuel (enc I D K n Z) (nI (7 * m) + (7 : Int32)) = some ((1 : Int32), h')) : ∃ h', (bA (sget xs L (nI (7 * m) + (1 : Int32))) fun v238 => bA (sget xs L (nI (7 * m) + (2 : Int32))) fun v240 => bA (sget xs L (nI (7 * m) + (3 : Int32))) fun v242 => bA (isC (enc I D K n Z) 0 10) fun u250 => b2 (f_X11_errand (enc I D K n Z) 0 v238 v240 v242) fun r246 h244 => bA (sget xs L (nI (7 * m) + (1 : Int32))) fun v253 => bA (sget xs L (nI (7 * m) + (2 : Int32))) fun v255 => bA (sget xs L (nI (7 * m) + (3 : Int32))) fun v257 => bA (isC h244 162 11) fun u265 => b2 (f_X12_errand h244 162 v253 v255 v257) fun r261 h259 => (if r246 = r261 then f_L_law_L18 kk xs L 0 162 fuel h259 (nI (7 * m) + (7 : Int32)) else some ((0 : Int32), h259))) = some ((1 : Int32), h') := by
  obtain ⟨r, h1, I2, D2, K2, n2, e1, e2, e3, e4⟩ := gd_go (k_errand (Z := Z) hI (by omega) (xs (7 * m + 1)) (xs (7 * m + 2)) (xs (7 * m + 3))) (fun h y e => pv_first e)
  have e1 : f_X11_errand (enc I D K n Z) 0 (xs (7 * m + 1)) (xs (7 * m + 2)) (xs (7 * m + 3)) = some (r, h1) := e1
  have e3 : f_X12_errand h1 162 (xs (7 * m + 1)) (xs (7 * m + 2)) (xs (7 * m + 3)) = some (r, enc I2 D2 K2 n2 Z) := e3
  obtain ⟨h', e⟩ := ih I2 D2 K2 n2 e4
  refine ⟨h', ?_⟩
  simp only [sget_n1 xs hL hl, sget_n2 xs hL hl, sget_n3 xs hL hl, bA_s, c0, e1, b2_s, e2, e3, if_true]
  exact e
theorem st_ledger {kk : Int32 → Hp → Option (Int32 × Hp)} {xs : Nat → Int32} {L fuel m : Nat} (hI : Inv I D K n m) (hm : m ≤ 600) (hL : 7 * m + 7 ≤ L) (hl : L ≤ 3584) (ih : ∀ (I : Nat → Nat → Int32) (D : Nat → Nat → Option Nat) (K : Nat → Nat) (n : Nat), Inv I D K n (m + 1) → ∃ h', f_L_law_L18 kk xs L 0 162 fuel (enc I D K n Z) (nI (7 * m) + (7 : Int32)) = some ((1 : Int32), h')) : ∃ h', (bA (sget xs L (nI (7 * m) + (1 : Int32))) fun v270 => bA (isC (enc I D K n Z) 0 10) fun u278 => b2 (f_X11_ledger (enc I D K n Z) 0 v270) fun r274 h272 => bA (sget xs L (nI (7 * m) + (1 : Int32))) fun v281 => bA (isC h272 162 11) fun u289 => b2 (f_X12_ledger h272 162 v281) fun r285 h283 => (if r274 = r285 then f_L_law_L18 kk xs L 0 162 fuel h283 (nI (7 * m) + (7 : Int32)) else some ((0 : Int32), h283))) = some ((1 : Int32), h') := by
  obtain ⟨r, h1, I2, D2, K2, n2, e1, e2, e3, e4⟩ := gd_go (k_ledger (Z := Z) hI (xs (7 * m + 1))) (fun h y e => pv_first e)
  have e1 : f_X11_ledger (enc I D K n Z) 0 (xs (7 * m + 1)) = some (r, h1) := e1
  have e3 : f_X12_ledger h1 162 (xs (7 * m + 1)) = some (r, enc I2 D2 K2 n2 Z) := e3
  obtain ⟨h', e⟩ := ih I2 D2 K2 n2 e4
  refine ⟨h', ?_⟩
  simp only [sget_n1 xs hL hl, bA_s, c0, e1, b2_s, e2, e3, if_true]
  exact e
theorem st_oil {kk : Int32 → Hp → Option (Int32 × Hp)} {xs : Nat → Int32} {L fuel m : Nat} (hI : Inv I D K n m) (hm : m ≤ 600) (hL : 7 * m + 7 ≤ L) (hl : L ≤ 3584) (ih : ∀ (I : Nat → Nat → Int32) (D : Nat → Nat → Option Nat) (K : Nat → Nat) (n : Nat), Inv I D K n (m + 1) → ∃ h', f_L_law_L18 kk xs L 0 162 fuel (enc I D K n Z) (nI (7 * m) + (7 : Int32)) = some ((1 : Int32), h')) : ∃ h', (bA (sget xs L (nI (7 * m) + (1 : Int32))) fun v294 => bA (isC (enc I D K n Z) 0 10) fun u302 => b2 (f_X11_oil (enc I D K n Z) 0 v294) fun r298 h296 => bA (sget xs L (nI (7 * m) + (1 : Int32))) fun v305 => bA (isC h296 162 11) fun u313 => b2 (f_X12_oil h296 162 v305) fun r309 h307 => (if r298 = r309 then f_L_law_L18 kk xs L 0 162 fuel h307 (nI (7 * m) + (7 : Int32)) else some ((0 : Int32), h307))) = some ((1 : Int32), h') := by
  obtain ⟨r, h1, I2, D2, K2, n2, e1, e2, e3, e4⟩ := gd_go (k_oil (Z := Z) hI (by omega) (xs (7 * m + 1))) (fun h y e => pv_first e)
  have e1 : f_X11_oil (enc I D K n Z) 0 (xs (7 * m + 1)) = some (r, h1) := e1
  have e3 : f_X12_oil h1 162 (xs (7 * m + 1)) = some (r, enc I2 D2 K2 n2 Z) := e3
  obtain ⟨h', e⟩ := ih I2 D2 K2 n2 e4
  refine ⟨h', ?_⟩
  simp only [sget_n1 xs hL hl, bA_s, c0, e1, b2_s, e2, e3, if_true]
  exact e
theorem st_bring {kk : Int32 → Hp → Option (Int32 × Hp)} {xs : Nat → Int32} {L fuel m : Nat} (hI : Inv I D K n m) (hm : m ≤ 600) (hL : 7 * m + 7 ≤ L) (hl : L ≤ 3584) (ih : ∀ (I : Nat → Nat → Int32) (D : Nat → Nat → Option Nat) (K : Nat → Nat) (n : Nat), Inv I D K n (m + 1) → ∃ h', f_L_law_L18 kk xs L 0 162 fuel (enc I D K n Z) (nI (7 * m) + (7 : Int32)) = some ((1 : Int32), h')) : ∃ h', (bA (sget xs L (nI (7 * m) + (1 : Int32))) fun v318 => bA (sget xs L (nI (7 * m) + (2 : Int32))) fun v320 => bA (isC (enc I D K n Z) 0 10) fun u328 => b2 (f_X11_bring (enc I D K n Z) 0 v318 v320) fun r324 h322 => bA (sget xs L (nI (7 * m) + (1 : Int32))) fun v331 => bA (sget xs L (nI (7 * m) + (2 : Int32))) fun v333 => bA (isC h322 162 11) fun u341 => b2 (f_X12_bring h322 162 v331 v333) fun r337 h335 => (if r324 = r337 then f_L_law_L18 kk xs L 0 162 fuel h335 (nI (7 * m) + (7 : Int32)) else some ((0 : Int32), h335))) = some ((1 : Int32), h') := by
  obtain ⟨r, h1, I2, D2, K2, n2, e1, e2, e3, e4⟩ := gd_go (k_bring (Z := Z) hI (xs (7 * m + 1)) (xs (7 * m + 2))) (fun h y e => pv_first e)
  have e1 : f_X11_bring (enc I D K n Z) 0 (xs (7 * m + 1)) (xs (7 * m + 2)) = some (r, h1) := e1
  have e3 : f_X12_bring h1 162 (xs (7 * m + 1)) (xs (7 * m + 2)) = some (r, enc I2 D2 K2 n2 Z) := e3
  obtain ⟨h', e⟩ := ih I2 D2 K2 n2 e4
  refine ⟨h', ?_⟩
  simp only [sget_n1 xs hL hl, sget_n2 xs hL hl, bA_s, c0, e1, b2_s, e2, e3, if_true]
  exact e
theorem st_rule {kk : Int32 → Hp → Option (Int32 × Hp)} {xs : Nat → Int32} {L fuel m : Nat} (hI : Inv I D K n m) (hm : m ≤ 600) (hL : 7 * m + 7 ≤ L) (hl : L ≤ 3584) (ih : ∀ (I : Nat → Nat → Int32) (D : Nat → Nat → Option Nat) (K : Nat → Nat) (n : Nat), Inv I D K n (m + 1) → ∃ h', f_L_law_L18 kk xs L 0 162 fuel (enc I D K n Z) (nI (7 * m) + (7 : Int32)) = some ((1 : Int32), h')) : ∃ h', (bA (sget xs L (nI (7 * m) + (1 : Int32))) fun v346 => bA (sget xs L (nI (7 * m) + (2 : Int32))) fun v348 => bA (isC (enc I D K n Z) 0 10) fun u356 => b2 (f_X11_rule (enc I D K n Z) 0 v346 v348) fun r352 h350 => bA (sget xs L (nI (7 * m) + (1 : Int32))) fun v359 => bA (sget xs L (nI (7 * m) + (2 : Int32))) fun v361 => bA (isC h350 162 11) fun u369 => b2 (f_X12_rule h350 162 v359 v361) fun r365 h363 => (if r352 = r365 then f_L_law_L18 kk xs L 0 162 fuel h363 (nI (7 * m) + (7 : Int32)) else some ((0 : Int32), h363))) = some ((1 : Int32), h') := by
  obtain ⟨r, h1, I2, D2, K2, n2, e1, e2, e3, e4⟩ := gd_go (k_rule (Z := Z) hI (xs (7 * m + 1)) (xs (7 * m + 2))) (fun h y e => pv_first e)
  have e1 : f_X11_rule (enc I D K n Z) 0 (xs (7 * m + 1)) (xs (7 * m + 2)) = some (r, h1) := e1
  have e3 : f_X12_rule h1 162 (xs (7 * m + 1)) (xs (7 * m + 2)) = some (r, enc I2 D2 K2 n2 Z) := e3
  obtain ⟨h', e⟩ := ih I2 D2 K2 n2 e4
  refine ⟨h', ?_⟩
  simp only [sget_n1 xs hL hl, sget_n2 xs hL hl, bA_s, c0, e1, b2_s, e2, e3, if_true]
  exact e
theorem st_door {kk : Int32 → Hp → Option (Int32 × Hp)} {xs : Nat → Int32} {L fuel m : Nat} (hI : Inv I D K n m) (hm : m ≤ 600) (hL : 7 * m + 7 ≤ L) (hl : L ≤ 3584) (ih : ∀ (I : Nat → Nat → Int32) (D : Nat → Nat → Option Nat) (K : Nat → Nat) (n : Nat), Inv I D K n (m + 1) → ∃ h', f_L_law_L18 kk xs L 0 162 fuel (enc I D K n Z) (nI (7 * m) + (7 : Int32)) = some ((1 : Int32), h')) : ∃ h', (bA (sget xs L (nI (7 * m) + (1 : Int32))) fun v374 => bA (sget xs L (nI (7 * m) + (2 : Int32))) fun v376 => bA (isC (enc I D K n Z) 0 10) fun u384 => b2 (f_X11_door (enc I D K n Z) 0 v374 v376) fun r380 h378 => bA (sget xs L (nI (7 * m) + (1 : Int32))) fun v387 => bA (sget xs L (nI (7 * m) + (2 : Int32))) fun v389 => bA (isC h378 162 11) fun u397 => b2 (f_X12_door h378 162 v387 v389) fun r393 h391 => (if r380 = r393 then f_L_law_L18 kk xs L 0 162 fuel h391 (nI (7 * m) + (7 : Int32)) else some ((0 : Int32), h391))) = some ((1 : Int32), h') := by
  obtain ⟨r, h1, I2, D2, K2, n2, e1, e2, e3, e4⟩ := gd_go (k_door (Z := Z) hI (by omega) (xs (7 * m + 1)) (xs (7 * m + 2))) (fun h y e => pv_first e)
  have e1 : f_X11_door (enc I D K n Z) 0 (xs (7 * m + 1)) (xs (7 * m + 2)) = some (r, h1) := e1
  have e3 : f_X12_door h1 162 (xs (7 * m + 1)) (xs (7 * m + 2)) = some (r, enc I2 D2 K2 n2 Z) := e3
  obtain ⟨h', e⟩ := ih I2 D2 K2 n2 e4
  refine ⟨h', ?_⟩
  simp only [sget_n1 xs hL hl, sget_n2 xs hL hl, bA_s, c0, e1, b2_s, e2, e3, if_true]
  exact e
theorem st_room {kk : Int32 → Hp → Option (Int32 × Hp)} {xs : Nat → Int32} {L fuel m : Nat} (hI : Inv I D K n m) (hm : m ≤ 600) (hL : 7 * m + 7 ≤ L) (hl : L ≤ 3584) (ih : ∀ (I : Nat → Nat → Int32) (D : Nat → Nat → Option Nat) (K : Nat → Nat) (n : Nat), Inv I D K n (m + 1) → ∃ h', f_L_law_L18 kk xs L 0 162 fuel (enc I D K n Z) (nI (7 * m) + (7 : Int32)) = some ((1 : Int32), h')) : ∃ h', (bA (sget xs L (nI (7 * m) + (1 : Int32))) fun v402 => bA (sget xs L (nI (7 * m) + (2 : Int32))) fun v404 => bA (isC (enc I D K n Z) 0 10) fun u412 => b2 (f_X11_room (enc I D K n Z) 0 v402 v404) fun r408 h406 => bA (sget xs L (nI (7 * m) + (1 : Int32))) fun v415 => bA (sget xs L (nI (7 * m) + (2 : Int32))) fun v417 => bA (isC h406 162 11) fun u425 => b2 (f_X12_room h406 162 v415 v417) fun r421 h419 => (if r408 = r421 then f_L_law_L18 kk xs L 0 162 fuel h419 (nI (7 * m) + (7 : Int32)) else some ((0 : Int32), h419))) = some ((1 : Int32), h') := by
  obtain ⟨r, h1, I2, D2, K2, n2, e1, e2, e3, e4⟩ := gd_go (k_room (Z := Z) hI (xs (7 * m + 1)) (xs (7 * m + 2))) (fun h y e => pv_first e)
  have e1 : f_X11_room (enc I D K n Z) 0 (xs (7 * m + 1)) (xs (7 * m + 2)) = some (r, h1) := e1
  have e3 : f_X12_room h1 162 (xs (7 * m + 1)) (xs (7 * m + 2)) = some (r, enc I2 D2 K2 n2 Z) := e3
  obtain ⟨h', e⟩ := ih I2 D2 K2 n2 e4
  refine ⟨h', ?_⟩
  simp only [sget_n1 xs hL hl, sget_n2 xs hL hl, bA_s, c0, e1, b2_s, e2, e3, if_true]
  exact e
theorem st_would {kk : Int32 → Hp → Option (Int32 × Hp)} {xs : Nat → Int32} {L fuel m : Nat} (hI : Inv I D K n m) (hm : m ≤ 600) (hL : 7 * m + 7 ≤ L) (hl : L ≤ 3584) (ih : ∀ (I : Nat → Nat → Int32) (D : Nat → Nat → Option Nat) (K : Nat → Nat) (n : Nat), Inv I D K n (m + 1) → ∃ h', f_L_law_L18 kk xs L 0 162 fuel (enc I D K n Z) (nI (7 * m) + (7 : Int32)) = some ((1 : Int32), h')) : ∃ h', (bA (sget xs L (nI (7 * m) + (1 : Int32))) fun v430 => bA (sget xs L (nI (7 * m) + (2 : Int32))) fun v432 => bA (sget xs L (nI (7 * m) + (3 : Int32))) fun v434 => bA (sget xs L (nI (7 * m) + (4 : Int32))) fun v436 => bA (isC (enc I D K n Z) 0 10) fun u444 => b2 (f_X11_would (enc I D K n Z) 0 v430 v432 v434 v436) fun r440 h438 => bA (sget xs L (nI (7 * m) + (1 : Int32))) fun v447 => bA (sget xs L (nI (7 * m) + (2 : Int32))) fun v449 => bA (sget xs L (nI (7 * m) + (3 : Int32))) fun v451 => bA (sget xs L (nI (7 * m) + (4 : Int32))) fun v453 => bA (isC h438 162 11) fun u461 => b2 (f_X12_would h438 162 v447 v449 v451 v453) fun r457 h455 => (if r440 = r457 then f_L_law_L18 kk xs L 0 162 fuel h455 (nI (7 * m) + (7 : Int32)) else some ((0 : Int32), h455))) = some ((1 : Int32), h') := by
  obtain ⟨r, h1, I2, D2, K2, n2, e1, e2, e3, e4⟩ := gd_go (k_would (Z := Z) hI (by omega) (xs (7 * m + 1)) (xs (7 * m + 2)) (xs (7 * m + 3)) (xs (7 * m + 4))) (fun h y e => pv_first e)
  have e1 : f_X11_would (enc I D K n Z) 0 (xs (7 * m + 1)) (xs (7 * m + 2)) (xs (7 * m + 3)) (xs (7 * m + 4)) = some (r, h1) := e1
  have e3 : f_X12_would h1 162 (xs (7 * m + 1)) (xs (7 * m + 2)) (xs (7 * m + 3)) (xs (7 * m + 4)) = some (r, enc I2 D2 K2 n2 Z) := e3
  obtain ⟨h', e⟩ := ih I2 D2 K2 n2 e4
  refine ⟨h', ?_⟩
  simp only [sget_n1 xs hL hl, sget_n2 xs hL hl, sget_n3 xs hL hl, sget_n4 xs hL hl, bA_s, c0, e1, b2_s, e2, e3, if_true]
  exact e
theorem st_way {kk : Int32 → Hp → Option (Int32 × Hp)} {xs : Nat → Int32} {L fuel m : Nat} (hI : Inv I D K n m) (hm : m ≤ 600) (hL : 7 * m + 7 ≤ L) (hl : L ≤ 3584) (ih : ∀ (I : Nat → Nat → Int32) (D : Nat → Nat → Option Nat) (K : Nat → Nat) (n : Nat), Inv I D K n (m + 1) → ∃ h', f_L_law_L18 kk xs L 0 162 fuel (enc I D K n Z) (nI (7 * m) + (7 : Int32)) = some ((1 : Int32), h')) : ∃ h', (bA (sget xs L (nI (7 * m) + (1 : Int32))) fun v466 => bA (sget xs L (nI (7 * m) + (2 : Int32))) fun v468 => bA (isC (enc I D K n Z) 0 10) fun u476 => b2 (f_X11_way (enc I D K n Z) 0 v466 v468) fun r472 h470 => bA (sget xs L (nI (7 * m) + (1 : Int32))) fun v479 => bA (sget xs L (nI (7 * m) + (2 : Int32))) fun v481 => bA (isC h470 162 11) fun u489 => b2 (f_X12_way h470 162 v479 v481) fun r485 h483 => (if r472 = r485 then f_L_law_L18 kk xs L 0 162 fuel h483 (nI (7 * m) + (7 : Int32)) else some ((0 : Int32), h483))) = some ((1 : Int32), h') := by
  obtain ⟨r, h1, I2, D2, K2, n2, e1, e2, e3, e4⟩ := gd_go (k_way (Z := Z) hI (by omega) (xs (7 * m + 1)) (xs (7 * m + 2))) (fun h y e => pv_first e)
  have e1 : f_X11_way (enc I D K n Z) 0 (xs (7 * m + 1)) (xs (7 * m + 2)) = some (r, h1) := e1
  have e3 : f_X12_way h1 162 (xs (7 * m + 1)) (xs (7 * m + 2)) = some (r, enc I2 D2 K2 n2 Z) := e3
  obtain ⟨h', e⟩ := ih I2 D2 K2 n2 e4
  refine ⟨h', ?_⟩
  simp only [sget_n1 xs hL hl, sget_n2 xs hL hl, bA_s, c0, e1, b2_s, e2, e3, if_true]
  exact e
theorem st_needs {kk : Int32 → Hp → Option (Int32 × Hp)} {xs : Nat → Int32} {L fuel m : Nat} (hI : Inv I D K n m) (hm : m ≤ 600) (hL : 7 * m + 7 ≤ L) (hl : L ≤ 3584) (ih : ∀ (I : Nat → Nat → Int32) (D : Nat → Nat → Option Nat) (K : Nat → Nat) (n : Nat), Inv I D K n (m + 1) → ∃ h', f_L_law_L18 kk xs L 0 162 fuel (enc I D K n Z) (nI (7 * m) + (7 : Int32)) = some ((1 : Int32), h')) : ∃ h', (bA (sget xs L (nI (7 * m) + (1 : Int32))) fun v494 => bA (sget xs L (nI (7 * m) + (2 : Int32))) fun v496 => bA (sget xs L (nI (7 * m) + (3 : Int32))) fun v498 => bA (sget xs L (nI (7 * m) + (4 : Int32))) fun v500 => bA (isC (enc I D K n Z) 0 10) fun u508 => b2 (f_X11_needs (enc I D K n Z) 0 v494 v496 v498 v500) fun r504 h502 => bA (sget xs L (nI (7 * m) + (1 : Int32))) fun v511 => bA (sget xs L (nI (7 * m) + (2 : Int32))) fun v513 => bA (sget xs L (nI (7 * m) + (3 : Int32))) fun v515 => bA (sget xs L (nI (7 * m) + (4 : Int32))) fun v517 => bA (isC h502 162 11) fun u525 => b2 (f_X12_needs h502 162 v511 v513 v515 v517) fun r521 h519 => (if r504 = r521 then f_L_law_L18 kk xs L 0 162 fuel h519 (nI (7 * m) + (7 : Int32)) else some ((0 : Int32), h519))) = some ((1 : Int32), h') := by
  obtain ⟨r, h1, I2, D2, K2, n2, e1, e2, e3, e4⟩ := gd_go (k_needs (Z := Z) hI (by omega) (xs (7 * m + 1)) (xs (7 * m + 2)) (xs (7 * m + 3)) (xs (7 * m + 4))) (fun h y e => pv_first e)
  have e1 : f_X11_needs (enc I D K n Z) 0 (xs (7 * m + 1)) (xs (7 * m + 2)) (xs (7 * m + 3)) (xs (7 * m + 4)) = some (r, h1) := e1
  have e3 : f_X12_needs h1 162 (xs (7 * m + 1)) (xs (7 * m + 2)) (xs (7 * m + 3)) (xs (7 * m + 4)) = some (r, enc I2 D2 K2 n2 Z) := e3
  obtain ⟨h', e⟩ := ih I2 D2 K2 n2 e4
  refine ⟨h', ?_⟩
  simp only [sget_n1 xs hL hl, sget_n2 xs hL hl, sget_n3 xs hL hl, sget_n4 xs hL hl, bA_s, c0, e1, b2_s, e2, e3, if_true]
  exact e
theorem st_sets {kk : Int32 → Hp → Option (Int32 × Hp)} {xs : Nat → Int32} {L fuel m : Nat} (hI : Inv I D K n m) (hm : m ≤ 600) (hL : 7 * m + 7 ≤ L) (hl : L ≤ 3584) (ih : ∀ (I : Nat → Nat → Int32) (D : Nat → Nat → Option Nat) (K : Nat → Nat) (n : Nat), Inv I D K n (m + 1) → ∃ h', f_L_law_L18 kk xs L 0 162 fuel (enc I D K n Z) (nI (7 * m) + (7 : Int32)) = some ((1 : Int32), h')) : ∃ h', (bA (sget xs L (nI (7 * m) + (1 : Int32))) fun v530 => bA (sget xs L (nI (7 * m) + (2 : Int32))) fun v532 => bA (isC (enc I D K n Z) 0 10) fun u540 => b2 (f_X11_sets (enc I D K n Z) 0 v530 v532) fun r536 h534 => bA (sget xs L (nI (7 * m) + (1 : Int32))) fun v543 => bA (sget xs L (nI (7 * m) + (2 : Int32))) fun v545 => bA (isC h534 162 11) fun u553 => b2 (f_X12_sets h534 162 v543 v545) fun r549 h547 => (if r536 = r549 then f_L_law_L18 kk xs L 0 162 fuel h547 (nI (7 * m) + (7 : Int32)) else some ((0 : Int32), h547))) = some ((1 : Int32), h') := by
  obtain ⟨r, h1, I2, D2, K2, n2, e1, e2, e3, e4⟩ := gd_go (k_sets (Z := Z) hI (xs (7 * m + 1)) (xs (7 * m + 2))) (fun h y e => pv_first e)
  have e1 : f_X11_sets (enc I D K n Z) 0 (xs (7 * m + 1)) (xs (7 * m + 2)) = some (r, h1) := e1
  have e3 : f_X12_sets h1 162 (xs (7 * m + 1)) (xs (7 * m + 2)) = some (r, enc I2 D2 K2 n2 Z) := e3
  obtain ⟨h', e⟩ := ih I2 D2 K2 n2 e4
  refine ⟨h', ?_⟩
  simp only [sget_n1 xs hL hl, sget_n2 xs hL hl, bA_s, c0, e1, b2_s, e2, e3, if_true]
  exact e
theorem st_share {kk : Int32 → Hp → Option (Int32 × Hp)} {xs : Nat → Int32} {L fuel m : Nat} (hI : Inv I D K n m) (hm : m ≤ 600) (hL : 7 * m + 7 ≤ L) (hl : L ≤ 3584) (ih : ∀ (I : Nat → Nat → Int32) (D : Nat → Nat → Option Nat) (K : Nat → Nat) (n : Nat), Inv I D K n (m + 1) → ∃ h', f_L_law_L18 kk xs L 0 162 fuel (enc I D K n Z) (nI (7 * m) + (7 : Int32)) = some ((1 : Int32), h')) : ∃ h', (bA (sget xs L (nI (7 * m) + (1 : Int32))) fun v558 => bA (sget xs L (nI (7 * m) + (2 : Int32))) fun v560 => bA (isC (enc I D K n Z) 0 10) fun u568 => b2 (f_X11_share (enc I D K n Z) 0 v558 v560) fun r564 h562 => bA (sget xs L (nI (7 * m) + (1 : Int32))) fun v571 => bA (sget xs L (nI (7 * m) + (2 : Int32))) fun v573 => bA (isC h562 162 11) fun u581 => b2 (f_X12_share h562 162 v571 v573) fun r577 h575 => (if r564 = r577 then f_L_law_L18 kk xs L 0 162 fuel h575 (nI (7 * m) + (7 : Int32)) else some ((0 : Int32), h575))) = some ((1 : Int32), h') := by
  obtain ⟨r, h1, I2, D2, K2, n2, e1, e2, e3, e4⟩ := gd_go (k_share (Z := Z) hI (xs (7 * m + 1)) (xs (7 * m + 2))) (fun h y e => pv_first e)
  have e1 : f_X11_share (enc I D K n Z) 0 (xs (7 * m + 1)) (xs (7 * m + 2)) = some (r, h1) := e1
  have e3 : f_X12_share h1 162 (xs (7 * m + 1)) (xs (7 * m + 2)) = some (r, enc I2 D2 K2 n2 Z) := e3
  obtain ⟨h', e⟩ := ih I2 D2 K2 n2 e4
  refine ⟨h', ?_⟩
  simp only [sget_n1 xs hL hl, sget_n2 xs hL hl, bA_s, c0, e1, b2_s, e2, e3, if_true]
  exact e
theorem st_byTurns {kk : Int32 → Hp → Option (Int32 × Hp)} {xs : Nat → Int32} {L fuel m : Nat} (hI : Inv I D K n m) (hm : m ≤ 600) (hL : 7 * m + 7 ≤ L) (hl : L ≤ 3584) (ih : ∀ (I : Nat → Nat → Int32) (D : Nat → Nat → Option Nat) (K : Nat → Nat) (n : Nat), Inv I D K n (m + 1) → ∃ h', f_L_law_L18 kk xs L 0 162 fuel (enc I D K n Z) (nI (7 * m) + (7 : Int32)) = some ((1 : Int32), h')) : ∃ h', (bA (sget xs L (nI (7 * m) + (1 : Int32))) fun v586 => bA (isC (enc I D K n Z) 0 10) fun u594 => b2 (f_X11_byTurns (enc I D K n Z) 0 v586) fun r590 h588 => bA (sget xs L (nI (7 * m) + (1 : Int32))) fun v597 => bA (isC h588 162 11) fun u605 => b2 (f_X12_byTurns h588 162 v597) fun r601 h599 => (if r590 = r601 then f_L_law_L18 kk xs L 0 162 fuel h599 (nI (7 * m) + (7 : Int32)) else some ((0 : Int32), h599))) = some ((1 : Int32), h') := by
  obtain ⟨r, h1, I2, D2, K2, n2, e1, e2, e3, e4⟩ := gd_go (k_byTurns (Z := Z) hI (by omega) (xs (7 * m + 1))) (fun h y e => pv_first e)
  have e1 : f_X11_byTurns (enc I D K n Z) 0 (xs (7 * m + 1)) = some (r, h1) := e1
  have e3 : f_X12_byTurns h1 162 (xs (7 * m + 1)) = some (r, enc I2 D2 K2 n2 Z) := e3
  obtain ⟨h', e⟩ := ih I2 D2 K2 n2 e4
  refine ⟨h', ?_⟩
  simp only [sget_n1 xs hL hl, bA_s, c0, e1, b2_s, e2, e3, if_true]
  exact e
theorem st_who {kk : Int32 → Hp → Option (Int32 × Hp)} {xs : Nat → Int32} {L fuel m : Nat} (hI : Inv I D K n m) (hm : m ≤ 600) (hL : 7 * m + 7 ≤ L) (hl : L ≤ 3584) (ih : ∀ (I : Nat → Nat → Int32) (D : Nat → Nat → Option Nat) (K : Nat → Nat) (n : Nat), Inv I D K n (m + 1) → ∃ h', f_L_law_L18 kk xs L 0 162 fuel (enc I D K n Z) (nI (7 * m) + (7 : Int32)) = some ((1 : Int32), h')) : ∃ h', (bA (sget xs L (nI (7 * m) + (1 : Int32))) fun v610 => bA (sget xs L (nI (7 * m) + (2 : Int32))) fun v612 => bA (sget xs L (nI (7 * m) + (3 : Int32))) fun v614 => bA (sget xs L (nI (7 * m) + (4 : Int32))) fun v616 => bA (sget xs L (nI (7 * m) + (5 : Int32))) fun v618 => bA (sget xs L (nI (7 * m) + (6 : Int32))) fun v620 => bA (isC (enc I D K n Z) 0 10) fun u628 => b2 (f_X11_who (enc I D K n Z) 0 v610 v612 v614 v616 v618 v620) fun r624 h622 => bA (sget xs L (nI (7 * m) + (1 : Int32))) fun v631 => bA (sget xs L (nI (7 * m) + (2 : Int32))) fun v633 => bA (sget xs L (nI (7 * m) + (3 : Int32))) fun v635 => bA (sget xs L (nI (7 * m) + (4 : Int32))) fun v637 => bA (sget xs L (nI (7 * m) + (5 : Int32))) fun v639 => bA (sget xs L (nI (7 * m) + (6 : Int32))) fun v641 => bA (isC h622 162 11) fun u649 => b2 (f_X12_who h622 162 v631 v633 v635 v637 v639 v641) fun r645 h643 => (if r624 = r645 then f_L_law_L18 kk xs L 0 162 fuel h643 (nI (7 * m) + (7 : Int32)) else some ((0 : Int32), h643))) = some ((1 : Int32), h') := by
  obtain ⟨r, h1, I2, D2, K2, n2, e1, e2, e3, e4⟩ := gd_go (k_who (Z := Z) hI (by omega) (xs (7 * m + 1)) (xs (7 * m + 2)) (xs (7 * m + 3)) (xs (7 * m + 4)) (xs (7 * m + 5)) (xs (7 * m + 6))) (fun h y e => pv_first e)
  have e1 : f_X11_who (enc I D K n Z) 0 (xs (7 * m + 1)) (xs (7 * m + 2)) (xs (7 * m + 3)) (xs (7 * m + 4)) (xs (7 * m + 5)) (xs (7 * m + 6)) = some (r, h1) := e1
  have e3 : f_X12_who h1 162 (xs (7 * m + 1)) (xs (7 * m + 2)) (xs (7 * m + 3)) (xs (7 * m + 4)) (xs (7 * m + 5)) (xs (7 * m + 6)) = some (r, enc I2 D2 K2 n2 Z) := e3
  obtain ⟨h', e⟩ := ih I2 D2 K2 n2 e4
  refine ⟨h', ?_⟩
  simp only [sget_n1 xs hL hl, sget_n2 xs hL hl, sget_n3 xs hL hl, sget_n4 xs hL hl, sget_n5 xs hL hl, sget_n6 xs hL hl, bA_s, c0, e1, b2_s, e2, e3, if_true]
  exact e
theorem st_sticks {kk : Int32 → Hp → Option (Int32 × Hp)} {xs : Nat → Int32} {L fuel m : Nat} (hI : Inv I D K n m) (hm : m ≤ 600) (hL : 7 * m + 7 ≤ L) (hl : L ≤ 3584) (ih : ∀ (I : Nat → Nat → Int32) (D : Nat → Nat → Option Nat) (K : Nat → Nat) (n : Nat), Inv I D K n (m + 1) → ∃ h', f_L_law_L18 kk xs L 0 162 fuel (enc I D K n Z) (nI (7 * m) + (7 : Int32)) = some ((1 : Int32), h')) : ∃ h', (bA (sget xs L (nI (7 * m) + (1 : Int32))) fun v654 => bA (sget xs L (nI (7 * m) + (2 : Int32))) fun v656 => bA (sget xs L (nI (7 * m) + (3 : Int32))) fun v658 => bA (sget xs L (nI (7 * m) + (4 : Int32))) fun v660 => bA (sget xs L (nI (7 * m) + (5 : Int32))) fun v662 => bA (isC (enc I D K n Z) 0 10) fun u670 => b2 (f_X11_sticks (enc I D K n Z) 0 v654 v656 v658 v660 v662) fun r666 h664 => bA (sget xs L (nI (7 * m) + (1 : Int32))) fun v673 => bA (sget xs L (nI (7 * m) + (2 : Int32))) fun v675 => bA (sget xs L (nI (7 * m) + (3 : Int32))) fun v677 => bA (sget xs L (nI (7 * m) + (4 : Int32))) fun v679 => bA (sget xs L (nI (7 * m) + (5 : Int32))) fun v681 => bA (isC h664 162 11) fun u689 => b2 (f_X12_sticks h664 162 v673 v675 v677 v679 v681) fun r685 h683 => (if (lg_cmp r666 r685) = 0 then f_L_law_L18 kk xs L 0 162 fuel h683 (nI (7 * m) + (7 : Int32)) else some ((0 : Int32), h683))) = some ((1 : Int32), h') := by
  obtain ⟨r, h1, I2, D2, K2, n2, e1, e2, e3, e4⟩ := gd_go (k_sticks (Z := Z) hI (by omega) (xs (7 * m + 1)) (xs (7 * m + 2)) (xs (7 * m + 3)) (xs (7 * m + 4)) (xs (7 * m + 5))) (fun h y e => pv_first e)
  have e1 : f_X11_sticks (enc I D K n Z) 0 (xs (7 * m + 1)) (xs (7 * m + 2)) (xs (7 * m + 3)) (xs (7 * m + 4)) (xs (7 * m + 5)) = some (r, h1) := e1
  have e3 : f_X12_sticks h1 162 (xs (7 * m + 1)) (xs (7 * m + 2)) (xs (7 * m + 3)) (xs (7 * m + 4)) (xs (7 * m + 5)) = some (r, enc I2 D2 K2 n2 Z) := e3
  obtain ⟨h', e⟩ := ih I2 D2 K2 n2 e4
  refine ⟨h', ?_⟩
  simp only [sget_n1 xs hL hl, sget_n2 xs hL hl, sget_n3 xs hL hl, sget_n4 xs hL hl, sget_n5 xs hL hl, bA_s, c0, e1, b2_s, e2, e3, lgc_self, if_true]
  exact e
theorem st_drawn {kk : Int32 → Hp → Option (Int32 × Hp)} {xs : Nat → Int32} {L fuel m : Nat} (hI : Inv I D K n m) (hm : m ≤ 600) (hL : 7 * m + 7 ≤ L) (hl : L ≤ 3584) (ih : ∀ (I : Nat → Nat → Int32) (D : Nat → Nat → Option Nat) (K : Nat → Nat) (n : Nat), Inv I D K n (m + 1) → ∃ h', f_L_law_L18 kk xs L 0 162 fuel (enc I D K n Z) (nI (7 * m) + (7 : Int32)) = some ((1 : Int32), h')) : ∃ h', (bA (sget xs L (nI (7 * m) + (1 : Int32))) fun v694 => bA (sget xs L (nI (7 * m) + (2 : Int32))) fun v696 => bA (sget xs L (nI (7 * m) + (3 : Int32))) fun v698 => bA (isC (enc I D K n Z) 0 10) fun u706 => b2 (f_X11_drawn (enc I D K n Z) 0 v694 v696 v698) fun r702 h700 => bA (sget xs L (nI (7 * m) + (1 : Int32))) fun v709 => bA (sget xs L (nI (7 * m) + (2 : Int32))) fun v711 => bA (sget xs L (nI (7 * m) + (3 : Int32))) fun v713 => bA (isC h700 162 11) fun u721 => b2 (f_X12_drawn h700 162 v709 v711 v713) fun r717 h715 => (if r702 = r717 then f_L_law_L18 kk xs L 0 162 fuel h715 (nI (7 * m) + (7 : Int32)) else some ((0 : Int32), h715))) = some ((1 : Int32), h') := by
  obtain ⟨r, h1, I2, D2, K2, n2, e1, e2, e3, e4⟩ := gd_go (k_drawn (Z := Z) hI (by omega) (xs (7 * m + 1)) (xs (7 * m + 2)) (xs (7 * m + 3))) (fun h y e => pv_first e)
  have e1 : f_X11_drawn (enc I D K n Z) 0 (xs (7 * m + 1)) (xs (7 * m + 2)) (xs (7 * m + 3)) = some (r, h1) := e1
  have e3 : f_X12_drawn h1 162 (xs (7 * m + 1)) (xs (7 * m + 2)) (xs (7 * m + 3)) = some (r, enc I2 D2 K2 n2 Z) := e3
  obtain ⟨h', e⟩ := ih I2 D2 K2 n2 e4
  refine ⟨h', ?_⟩
  simp only [sget_n1 xs hL hl, sget_n2 xs hL hl, sget_n3 xs hL hl, bA_s, c0, e1, b2_s, e2, e3, if_true]
  exact e
theorem st_image {kk : Int32 → Hp → Option (Int32 × Hp)} {xs : Nat → Int32} {L fuel m : Nat} (hI : Inv I D K n m) (hm : m ≤ 600) (hL : 7 * m + 7 ≤ L) (hl : L ≤ 3584) (ih : ∀ (I : Nat → Nat → Int32) (D : Nat → Nat → Option Nat) (K : Nat → Nat) (n : Nat), Inv I D K n (m + 1) → ∃ h', f_L_law_L18 kk xs L 0 162 fuel (enc I D K n Z) (nI (7 * m) + (7 : Int32)) = some ((1 : Int32), h')) : ∃ h', (bA (sget xs L (nI (7 * m) + (1 : Int32))) fun v726 => bA (isC (enc I D K n Z) 0 10) fun u734 => b2 (f_X11_image (enc I D K n Z) 0 v726) fun r730 h728 => bA (sget xs L (nI (7 * m) + (1 : Int32))) fun v737 => bA (isC h728 162 11) fun u745 => b2 (f_X12_image h728 162 v737) fun r741 h739 => (if r730 = r741 then f_L_law_L18 kk xs L 0 162 fuel h739 (nI (7 * m) + (7 : Int32)) else some ((0 : Int32), h739))) = some ((1 : Int32), h') := by
  obtain ⟨r, h1, I2, D2, K2, n2, e1, e2, e3, e4⟩ := gd_go (k_image (Z := Z) hI (xs (7 * m + 1))) (fun h y e => pv_first e)
  have e1 : f_X11_image (enc I D K n Z) 0 (xs (7 * m + 1)) = some (r, h1) := e1
  have e3 : f_X12_image h1 162 (xs (7 * m + 1)) = some (r, enc I2 D2 K2 n2 Z) := e3
  obtain ⟨h', e⟩ := ih I2 D2 K2 n2 e4
  refine ⟨h', ?_⟩
  simp only [sget_n1 xs hL hl, bA_s, c0, e1, b2_s, e2, e3, if_true]
  exact e
theorem st_restore {kk : Int32 → Hp → Option (Int32 × Hp)} {xs : Nat → Int32} {L fuel m : Nat} (hI : Inv I D K n m) (hm : m ≤ 600) (hL : 7 * m + 7 ≤ L) (hl : L ≤ 3584) (ih : ∀ (I : Nat → Nat → Int32) (D : Nat → Nat → Option Nat) (K : Nat → Nat) (n : Nat), Inv I D K n (m + 1) → ∃ h', f_L_law_L18 kk xs L 0 162 fuel (enc I D K n Z) (nI (7 * m) + (7 : Int32)) = some ((1 : Int32), h')) : ∃ h', (bA (sget xs L (nI (7 * m) + (1 : Int32))) fun v750 => bA (isC (enc I D K n Z) 0 10) fun u758 => b2 (f_X11_restore (enc I D K n Z) 0 v750) fun r754 h752 => bA (sget xs L (nI (7 * m) + (1 : Int32))) fun v761 => bA (isC h752 162 11) fun u769 => b2 (f_X12_restore h752 162 v761) fun r765 h763 => (if r754 = r765 then f_L_law_L18 kk xs L 0 162 fuel h763 (nI (7 * m) + (7 : Int32)) else some ((0 : Int32), h763))) = some ((1 : Int32), h') := by
  obtain ⟨r, h1, I2, D2, K2, n2, e1, e2, e3, e4⟩ := gd_go (k_restore (Z := Z) hI (xs (7 * m + 1))) (fun h y e => pv_first e)
  have e1 : f_X11_restore (enc I D K n Z) 0 (xs (7 * m + 1)) = some (r, h1) := e1
  have e3 : f_X12_restore h1 162 (xs (7 * m + 1)) = some (r, enc I2 D2 K2 n2 Z) := e3
  obtain ⟨h', e⟩ := ih I2 D2 K2 n2 e4
  refine ⟨h', ?_⟩
  simp only [sget_n1 xs hL hl, bA_s, c0, e1, b2_s, e2, e3, if_true]
  exact e
theorem st_kind {kk : Int32 → Hp → Option (Int32 × Hp)} {xs : Nat → Int32} {L fuel m : Nat} (hI : Inv I D K n m) (hm : m ≤ 600) (hL : 7 * m + 7 ≤ L) (hl : L ≤ 3584) (ih : ∀ (I : Nat → Nat → Int32) (D : Nat → Nat → Option Nat) (K : Nat → Nat) (n : Nat), Inv I D K n (m + 1) → ∃ h', f_L_law_L18 kk xs L 0 162 fuel (enc I D K n Z) (nI (7 * m) + (7 : Int32)) = some ((1 : Int32), h')) : ∃ h', (bA (sget xs L (nI (7 * m) + (1 : Int32))) fun v774 => bA (isC (enc I D K n Z) 0 10) fun u782 => b2 (f_X11_kind (enc I D K n Z) 0 v774) fun r778 h776 => bA (sget xs L (nI (7 * m) + (1 : Int32))) fun v785 => bA (isC h776 162 11) fun u793 => b2 (f_X12_kind h776 162 v785) fun r789 h787 => (if r778 = r789 then f_L_law_L18 kk xs L 0 162 fuel h787 (nI (7 * m) + (7 : Int32)) else some ((0 : Int32), h787))) = some ((1 : Int32), h') := by
  obtain ⟨r, h1, I2, D2, K2, n2, e1, e2, e3, e4⟩ := gd_go (k_kind (Z := Z) hI (xs (7 * m + 1))) (fun h y e => pv_first e)
  have e1 : f_X11_kind (enc I D K n Z) 0 (xs (7 * m + 1)) = some (r, h1) := e1
  have e3 : f_X12_kind h1 162 (xs (7 * m + 1)) = some (r, enc I2 D2 K2 n2 Z) := e3
  obtain ⟨h', e⟩ := ih I2 D2 K2 n2 e4
  refine ⟨h', ?_⟩
  simp only [sget_n1 xs hL hl, bA_s, c0, e1, b2_s, e2, e3, if_true]
  exact e
theorem st_as {kk : Int32 → Hp → Option (Int32 × Hp)} {xs : Nat → Int32} {L fuel m : Nat} (hI : Inv I D K n m) (hm : m ≤ 600) (hL : 7 * m + 7 ≤ L) (hl : L ≤ 3584) (ih : ∀ (I : Nat → Nat → Int32) (D : Nat → Nat → Option Nat) (K : Nat → Nat) (n : Nat), Inv I D K n (m + 1) → ∃ h', f_L_law_L18 kk xs L 0 162 fuel (enc I D K n Z) (nI (7 * m) + (7 : Int32)) = some ((1 : Int32), h')) : ∃ h', (bA (sget xs L (nI (7 * m) + (1 : Int32))) fun v798 => bA (sget xs L (nI (7 * m) + (2 : Int32))) fun v800 => bA (isC (enc I D K n Z) 0 10) fun u808 => b2 (f_X11_as (enc I D K n Z) 0 v798 v800) fun r804 h802 => bA (sget xs L (nI (7 * m) + (1 : Int32))) fun v811 => bA (sget xs L (nI (7 * m) + (2 : Int32))) fun v813 => bA (isC h802 162 11) fun u821 => b2 (f_X12_as h802 162 v811 v813) fun r817 h815 => (if r804 = r817 then f_L_law_L18 kk xs L 0 162 fuel h815 (nI (7 * m) + (7 : Int32)) else some ((0 : Int32), h815))) = some ((1 : Int32), h') := by
  obtain ⟨r, h1, I2, D2, K2, n2, e1, e2, e3, e4⟩ := gd_go (k_as (Z := Z) hI (xs (7 * m + 1)) (xs (7 * m + 2))) (fun h y e => pv_first e)
  have e1 : f_X11_as (enc I D K n Z) 0 (xs (7 * m + 1)) (xs (7 * m + 2)) = some (r, h1) := e1
  have e3 : f_X12_as h1 162 (xs (7 * m + 1)) (xs (7 * m + 2)) = some (r, enc I2 D2 K2 n2 Z) := e3
  obtain ⟨h', e⟩ := ih I2 D2 K2 n2 e4
  refine ⟨h', ?_⟩
  simp only [sget_n1 xs hL hl, sget_n2 xs hL hl, bA_s, c0, e1, b2_s, e2, e3, if_true]
  exact e
theorem st_ask {kk : Int32 → Hp → Option (Int32 × Hp)} {xs : Nat → Int32} {L fuel m : Nat} (hI : Inv I D K n m) (hm : m ≤ 600) (hL : 7 * m + 7 ≤ L) (hl : L ≤ 3584) (ih : ∀ (I : Nat → Nat → Int32) (D : Nat → Nat → Option Nat) (K : Nat → Nat) (n : Nat), Inv I D K n (m + 1) → ∃ h', f_L_law_L18 kk xs L 0 162 fuel (enc I D K n Z) (nI (7 * m) + (7 : Int32)) = some ((1 : Int32), h')) : ∃ h', (bA (sget xs L (nI (7 * m) + (1 : Int32))) fun v826 => bA (sget xs L (nI (7 * m) + (2 : Int32))) fun v828 => bA (isC (enc I D K n Z) 0 10) fun u836 => b2 (f_X11_ask (enc I D K n Z) 0 v826 v828) fun r832 h830 => bA (sget xs L (nI (7 * m) + (1 : Int32))) fun v839 => bA (sget xs L (nI (7 * m) + (2 : Int32))) fun v841 => bA (isC h830 162 11) fun u849 => b2 (f_X12_ask h830 162 v839 v841) fun r845 h843 => (if r832 = r845 then f_L_law_L18 kk xs L 0 162 fuel h843 (nI (7 * m) + (7 : Int32)) else some ((0 : Int32), h843))) = some ((1 : Int32), h') := by
  obtain ⟨r, h1, I2, D2, K2, n2, e1, e2, e3, e4⟩ := gd_go (k_ask (Z := Z) hI (xs (7 * m + 1)) (xs (7 * m + 2))) (fun h y e => pv_first e)
  have e1 : f_X11_ask (enc I D K n Z) 0 (xs (7 * m + 1)) (xs (7 * m + 2)) = some (r, h1) := e1
  have e3 : f_X12_ask h1 162 (xs (7 * m + 1)) (xs (7 * m + 2)) = some (r, enc I2 D2 K2 n2 Z) := e3
  obtain ⟨h', e⟩ := ih I2 D2 K2 n2 e4
  refine ⟨h', ?_⟩
  simp only [sget_n1 xs hL hl, sget_n2 xs hL hl, bA_s, c0, e1, b2_s, e2, e3, if_true]
  exact e
theorem st_trace {kk : Int32 → Hp → Option (Int32 × Hp)} {xs : Nat → Int32} {L fuel m : Nat} (hI : Inv I D K n m) (hm : m ≤ 600) (hL : 7 * m + 7 ≤ L) (hl : L ≤ 3584) (ih : ∀ (I : Nat → Nat → Int32) (D : Nat → Nat → Option Nat) (K : Nat → Nat) (n : Nat), Inv I D K n (m + 1) → ∃ h', f_L_law_L18 kk xs L 0 162 fuel (enc I D K n Z) (nI (7 * m) + (7 : Int32)) = some ((1 : Int32), h')) : ∃ h', (bA (sget xs L (nI (7 * m) + (1 : Int32))) fun v854 => bA (isC (enc I D K n Z) 0 10) fun u862 => b2 (f_X11_trace (enc I D K n Z) 0 v854) fun r858 h856 => bA (sget xs L (nI (7 * m) + (1 : Int32))) fun v865 => bA (isC h856 162 11) fun u873 => b2 (f_X12_trace h856 162 v865) fun r869 h867 => (if r858 = r869 then f_L_law_L18 kk xs L 0 162 fuel h867 (nI (7 * m) + (7 : Int32)) else some ((0 : Int32), h867))) = some ((1 : Int32), h') := by
  obtain ⟨r, h1, I2, D2, K2, n2, e1, e2, e3, e4⟩ := gd_go (k_trace (Z := Z) hI (xs (7 * m + 1))) (fun h y e => pv_first e)
  have e1 : f_X11_trace (enc I D K n Z) 0 (xs (7 * m + 1)) = some (r, h1) := e1
  have e3 : f_X12_trace h1 162 (xs (7 * m + 1)) = some (r, enc I2 D2 K2 n2 Z) := e3
  obtain ⟨h', e⟩ := ih I2 D2 K2 n2 e4
  refine ⟨h', ?_⟩
  simp only [sget_n1 xs hL hl, bA_s, c0, e1, b2_s, e2, e3, if_true]
  exact e
theorem st_count {kk : Int32 → Hp → Option (Int32 × Hp)} {xs : Nat → Int32} {L fuel m : Nat} (hI : Inv I D K n m) (hm : m ≤ 600) (hL : 7 * m + 7 ≤ L) (hl : L ≤ 3584) (ih : ∀ (I : Nat → Nat → Int32) (D : Nat → Nat → Option Nat) (K : Nat → Nat) (n : Nat), Inv I D K n (m + 1) → ∃ h', f_L_law_L18 kk xs L 0 162 fuel (enc I D K n Z) (nI (7 * m) + (7 : Int32)) = some ((1 : Int32), h')) : ∃ h', (bA (sget xs L (nI (7 * m) + (1 : Int32))) fun v878 => bA (isC (enc I D K n Z) 0 10) fun u886 => b2 (f_X11_count (enc I D K n Z) 0 v878) fun r882 h880 => bA (sget xs L (nI (7 * m) + (1 : Int32))) fun v889 => bA (isC h880 162 11) fun u897 => b2 (f_X12_count h880 162 v889) fun r893 h891 => (if r882 = r893 then f_L_law_L18 kk xs L 0 162 fuel h891 (nI (7 * m) + (7 : Int32)) else some ((0 : Int32), h891))) = some ((1 : Int32), h') := by
  obtain ⟨r, h1, I2, D2, K2, n2, e1, e2, e3, e4⟩ := gd_go (k_count (Z := Z) hI (xs (7 * m + 1))) (fun h y e => pv_first e)
  have e1 : f_X11_count (enc I D K n Z) 0 (xs (7 * m + 1)) = some (r, h1) := e1
  have e3 : f_X12_count h1 162 (xs (7 * m + 1)) = some (r, enc I2 D2 K2 n2 Z) := e3
  obtain ⟨h', e⟩ := ih I2 D2 K2 n2 e4
  refine ⟨h', ?_⟩
  simp only [sget_n1 xs hL hl, bA_s, c0, e1, b2_s, e2, e3, if_true]
  exact e
theorem st_status {kk : Int32 → Hp → Option (Int32 × Hp)} {xs : Nat → Int32} {L fuel m : Nat} (hI : Inv I D K n m) (hm : m ≤ 600) (hL : 7 * m + 7 ≤ L) (hl : L ≤ 3584) (ih : ∀ (I : Nat → Nat → Int32) (D : Nat → Nat → Option Nat) (K : Nat → Nat) (n : Nat), Inv I D K n (m + 1) → ∃ h', f_L_law_L18 kk xs L 0 162 fuel (enc I D K n Z) (nI (7 * m) + (7 : Int32)) = some ((1 : Int32), h')) : ∃ h', (bA (isC (enc I D K n Z) 0 10) fun u908 => b2 (f_X11_status (enc I D K n Z) 0 ) fun r904 h902 => bA (isC h902 162 11) fun u917 => b2 (f_X12_status h902 162 ) fun r913 h911 => (if r904 = r913 then f_L_law_L18 kk xs L 0 162 fuel h911 (nI (7 * m) + (7 : Int32)) else some ((0 : Int32), h911))) = some ((1 : Int32), h') := by
  obtain ⟨r, h1, I2, D2, K2, n2, e1, e2, e3, e4⟩ := gd_go (k_status (Z := Z) hI ) (fun h y e => pv_first e)
  have e1 : f_X11_status (enc I D K n Z) 0  = some (r, h1) := e1
  have e3 : f_X12_status h1 162  = some (r, enc I2 D2 K2 n2 Z) := e3
  obtain ⟨h', e⟩ := ih I2 D2 K2 n2 e4
  refine ⟨h', ?_⟩
  simp only [bA_s, c0, e1, b2_s, e2, e3, if_true]
  exact e
end LawCalls
