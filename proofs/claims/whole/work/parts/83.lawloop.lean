/-! THE LAW'S LOOP -/
theorem ite_ex {P : Prop} [hd : Decidable P] {a b : Option (Int32 × Hp)} (ha : P → ∃ h', a = some ((1 : Int32), h')) (hb : ¬ P → ∃ h', b = some ((1 : Int32), h')) : ∃ h', (if P then a else b) = some ((1 : Int32), h') := by
  by_cases c : P
  · rw [if_pos c]; exact ha c
  · rw [if_neg c]; exact hb c
theorem Inv.mono {I : Nat → Nat → Int32} {D : Nat → Nat → Option Nat} {K : Nat → Nat} {n N M : Nat} (h : Inv I D K n N) (hN : N ≤ M) : Inv I D K n M := h.frame hN Fr.rfl' FrD.rfl' DK.rfl' h.2.2.2.2.2.2 h.2.1.2.2.1
theorem law_c {L m : Nat} (hL : L ≤ 3584) (hm : m ≤ 600) : ((Int32.ofNat L) - (7 : Int32) < nI (7 * m)) = (L < 7 * m + 7) := by
  have e : ((Int32.ofNat L) - (7 : Int32)).toInt = (L : Int) - (7 : Nat) := pk_sub_toInt (a := L) (b := 7) (by omega) (by decide)
  rw [eq_iff_iff, fa_lt, e, toInt_nI (by omega)]
  omega
theorem law_L {Z : Nat → Cl} {xs : Nat → Int32} {L : Nat} (hL : L ≤ 3584) : ∀ (fuel m : Nat) (I : Nat → Nat → Int32) (D : Nat → Nat → Option Nat) (K : Nat → Nat) (n : Nat), m + fuel = 512 → Inv I D K n m → ∃ h', f_L_law_L18 (fun y922 h921 => some ((1 : Int32), h921)) xs L 0 162 (fuel + 1) (enc I D K n Z) (nI (7 * m)) = some ((1 : Int32), h') := by
  intro fuel
  induction fuel with
  | zero =>
    intro m I D K n hm hI
    refine ⟨enc I D K n Z, ?_⟩
    rw [f_L_law_L18, if_pos (by rw [law_c hL (by omega)]; omega)]
  | succ fuel ih =>
    intro m I D K n hm hI
    by_cases c : L < 7 * m + 7
    · refine ⟨enc I D K n Z, ?_⟩
      rw [f_L_law_L18, if_pos (by rw [law_c hL (by omega)]; exact c)]
    · have hL2 : 7 * m + 7 ≤ L := by omega
      have ih2 : ∀ (I : Nat → Nat → Int32) (D : Nat → Nat → Option Nat) (K : Nat → Nat) (n : Nat), Inv I D K n (m + 1) → ∃ h', f_L_law_L18 (fun y922 h921 => some ((1 : Int32), h921)) xs L 0 162 (fuel + 1) (enc I D K n Z) (nI (7 * m) + (7 : Int32)) = some ((1 : Int32), h') := fun I D K n hI2 => by
        have e7 : nI (7 * m) + (7 : Int32) = nI (7 * (m + 1)) := nI_add (7 * m) 7
        rw [e7]
        exact ih (m + 1) I D K n (by omega) hI2
      have hm : m ≤ 600 := by omega
      rw [f_L_law_L18, if_neg (by rw [law_c hL hm]; exact c), sget_n0 xs hL2 hL, bA_s]
      exact ite_ex (fun _ => st_row hI hm hL2 hL ih2) (fun _ => ite_ex (fun _ => st_set hI hm hL2 hL ih2) (fun _ => ite_ex (fun _ => st_copy hI hm hL2 hL ih2) (fun _ => ite_ex (fun _ => st_drop hI hm hL2 hL ih2) (fun _ => ite_ex (fun _ => st_feed hI hm hL2 hL ih2) (fun _ => ite_ex (fun _ => st_house hI hm hL2 hL ih2) (fun _ => ite_ex (fun _ => st_fault hI hm hL2 hL ih2) (fun _ => ite_ex (fun _ => st_undo hI hm hL2 hL ih2) (fun _ => ite_ex (fun _ => st_errand hI hm hL2 hL ih2) (fun _ => ite_ex (fun _ => st_ledger hI hm hL2 hL ih2) (fun _ => ite_ex (fun _ => st_oil hI hm hL2 hL ih2) (fun _ => ite_ex (fun _ => st_bring hI hm hL2 hL ih2) (fun _ => ite_ex (fun _ => st_rule hI hm hL2 hL ih2) (fun _ => ite_ex (fun _ => st_door hI hm hL2 hL ih2) (fun _ => ite_ex (fun _ => st_room hI hm hL2 hL ih2) (fun _ => ite_ex (fun _ => st_would hI hm hL2 hL ih2) (fun _ => ite_ex (fun _ => st_way hI hm hL2 hL ih2) (fun _ => ite_ex (fun _ => st_needs hI hm hL2 hL ih2) (fun _ => ite_ex (fun _ => st_sets hI hm hL2 hL ih2) (fun _ => ite_ex (fun _ => st_share hI hm hL2 hL ih2) (fun _ => ite_ex (fun _ => st_byTurns hI hm hL2 hL ih2) (fun _ => ite_ex (fun _ => st_who hI hm hL2 hL ih2) (fun _ => ite_ex (fun _ => st_sticks hI hm hL2 hL ih2) (fun _ => ite_ex (fun _ => st_drawn hI hm hL2 hL ih2) (fun _ => ite_ex (fun _ => st_image hI hm hL2 hL ih2) (fun _ => ite_ex (fun _ => st_restore hI hm hL2 hL ih2) (fun _ => ite_ex (fun _ => st_kind hI hm hL2 hL ih2) (fun _ => ite_ex (fun _ => st_as hI hm hL2 hL ih2) (fun _ => ite_ex (fun _ => st_ask hI hm hL2 hL ih2) (fun _ => ite_ex (fun _ => st_trace hI hm hL2 hL ih2) (fun _ => ite_ex (fun _ => st_count hI hm hL2 hL ih2) (fun _ => ite_ex (fun _ => st_status hI hm hL2 hL ih2) (fun _ => ih2 I D K n (hI.mono (Nat.le_succ m))))))))))))))))))))))))))))))))))
