/-! THE LAYOUT: which cell stands where; its ints (I), the doors' rows (D), the doors' kinds (K), how many doors (n) -/
abbrev Shp : Type := (Nat × List (Option Nat)) ⊕ ((Nat × Nat) ⊕ (Nat × Nat))
def sHouse (a : Nat) : Shp := .inl (2, [some (a + 1), some (a + 2), some (a + 3), none, none, none, none, none, none])
def sI (n : Nat) : Shp := .inr (.inl (0, n))
def sWalk (a : Nat) : Shp := .inl (9, [some (a + 1), some (a + 5), some (a + 7), none, none, none, none, none, none, none, none])
def sNums (a : Nat) : Shp := .inl (5, [some (a + 1), none])
def sQ (t n : Nat) : Shp := .inr (.inr (t, n))
def shp (K : Nat → Nat) (n a : Nat) : Option Shp :=
  if a < 30 then (match a with
    | 0 => some (.inl (10, [some 1, some 2, some 8, some 9, some 13, some 16, some 17, some 24, some 25, some 26, some 28, some 29, none, none, none, none]))
    | 1 => some (sQ 2 8)
    | 2 => some (.inl (6, [some 3, some 4, none, none, none]))
    | 3 => some (sI 110)
    | 4 => some (sHouse 4)
    | 5 => some (sI 8)
    | 6 => some (sI 8)
    | 7 => some (sQ 4 8)
    | 8 => some (sWalk 8)
    | 9 => some (sHouse 9)
    | 10 => some (sI 8)
    | 11 => some (sI 8)
    | 12 => some (sQ 4 8)
    | 13 => some (sNums 13)
    | 14 => some (sI 17)
    | 15 => some (sI 8)
    | 16 => some (sWalk 16)
    | 17 => some (sHouse 17)
    | 18 => some (sI 8)
    | 19 => some (sI 8)
    | 20 => some (sQ 4 8)
    | 21 => some (sNums 21)
    | 22 => some (sI 17)
    | 23 => some (sI 8)
    | 24 => some (sQ 3 24)
    | 25 => some (sQ 3 2)
    | 26 => some (sNums 26)
    | 27 => some (sI 16)
    | 28 => some (sQ 3 3)
    | _ => some (sI 3))
  else if a < 46 then (if a % 2 = 0 then some (.inl (7, [some (a + 1), none, none])) else some (sI 40))
  else if a < 162 then (if a % 4 = 2 then some (sHouse a) else if a % 4 = 1 then some (sQ 4 8) else some (sI 8))
  else if a < 177 then (match a - 162 with
    | 0 => some (.inl (11, [none, none, some 163, some 164, some 165, some 166, some 167, some 168, some 169, none, some 170, none, none, none, none, none, none, none, none, some 171, some 172, none, none, none, none, none, some 173, none, some 174, some 175, some 176, none]))
    | 1 => some (sI 8)
    | 2 => some (sI 8)
    | 3 => some (sI 320)
    | 4 => some (sI 54)
    | 5 => some (sI 54)
    | 6 => some (sI 54)
    | 7 => some (sI 1296)
    | 8 => some (sI 110)
    | 9 => some (sI 8)
    | 10 => some (sI 8)
    | 11 => some (sI 20)
    | 12 => some (.inr (.inl (1, 2)))
    | 13 => some (sI 108)
    | _ => some (sI 16))
  else if a < 177 + n then some (.inl (K a, [none, none, none, none]))
  else none
def mkfs : List (Option Nat) → Nat → (Nat → Int32) → List Vl
  | [], _, _ => []
  | none :: p, i, r => .inl (r i) :: mkfs p (i + 1) r
  | some q :: p, i, r => .inr (some q) :: mkfs p (i + 1) r
def cellAt (I : Nat → Nat → Int32) (D : Nat → Nat → Option Nat) (K : Nat → Nat) (n : Nat) (Z : Nat → Cl) (a : Nat) : Cl := match shp K n a with
  | some (.inl (c, p)) => .inr (.inr (c, mkfs p 0 (I a)))
  | some (.inr (.inl (t, m))) => .inl (t, m, I a)
  | some (.inr (.inr (t, m))) => .inr (.inl (t, m, D a))
  | none => Z a
def enc (I : Nat → Nat → Int32) (D : Nat → Nat → Option Nat) (K : Nat → Nat) (n : Nat) (Z : Nat → Cl) : Hp := (177 + n, cellAt I D K n Z)
theorem mkfs_get : ∀ (p : List (Option Nat)) (i k : Nat) (r : Nat → Int32), (mkfs p i r)[k]? = (p[k]?).map (fun q => match q with | none => .inl (r (i + k)) | some a => .inr (some a))
  | [], i, k, r => by simp [mkfs]
  | none :: p, i, 0, r => by simp [mkfs]
  | some a :: p, i, 0, r => by simp [mkfs]
  | none :: p, i, k + 1, r => by
    have h := mkfs_get p (i + 1) k r
    rw [show i + 1 + k = i + (k + 1) by omega] at h
    simpa [mkfs] using h
  | some a :: p, i, k + 1, r => by
    have h := mkfs_get p (i + 1) k r
    rw [show i + 1 + k = i + (k + 1) by omega] at h
    simpa [mkfs] using h
theorem mkfs_len : ∀ (p : List (Option Nat)) (i : Nat) (r : Nat → Int32), (mkfs p i r).length = p.length
  | [], i, r => rfl
  | none :: p, i, r => by simp [mkfs, mkfs_len p (i + 1) r]
  | some a :: p, i, r => by simp [mkfs, mkfs_len p (i + 1) r]
theorem mkfs_cong : ∀ (p : List (Option Nat)) (i : Nat) (r s : Nat → Int32), (∀ j, i ≤ j → r j = s j) → mkfs p i r = mkfs p i s
  | [], i, r, s, h => rfl
  | none :: p, i, r, s, h => by simp [mkfs, h i (Nat.le_refl _), mkfs_cong p (i + 1) r s (fun j hj => h j (by omega))]
  | some a :: p, i, r, s, h => by simp [mkfs, mkfs_cong p (i + 1) r s (fun j hj => h j (by omega))]
theorem mkfs_set : ∀ (p : List (Option Nat)) (i k : Nat) (r : Nat → Int32) (v : Int32), p[k]? = some none → (mkfs p i r).set k (.inl v) = mkfs p i (upd r (i + k) v)
  | [], i, k, r, v, h => by simp at h
  | none :: p, i, 0, r, v, h => by
    simp only [mkfs, List.set_cons_zero, Nat.add_zero, pk_us]
    rw [mkfs_cong p (i + 1) r (upd r i v) (fun j hj => (pk_un (by omega)).symm)]
  | some a :: p, i, 0, r, v, h => by simp at h
  | none :: p, i, k + 1, r, v, h => by
    have q := mkfs_set p (i + 1) k r v (by simpa using h)
    rw [show i + 1 + k = i + (k + 1) by omega] at q
    simp only [mkfs, List.set_cons_succ, q]
    rw [pk_un (by omega)]
  | some a :: p, i, k + 1, r, v, h => by
    have q := mkfs_set p (i + 1) k r v (by simpa using h)
    rw [show i + 1 + k = i + (k + 1) by omega] at q
    simp only [mkfs, List.set_cons_succ, q]
theorem shp_lt {K : Nat → Nat} {n a : Nat} {s : Shp} (h : shp K n a = some s) : a < 177 + n := by
  unfold shp at h
  split at h
  · omega
  · split at h
    · omega
    · split at h
      · omega
      · split at h
        · omega
        · split at h
          · omega
          · cases h
section Enc
variable {I : Nat → Nat → Int32} {D : Nat → Nat → Option Nat} {K : Nat → Nat} {n a : Nat} {Z : Nat → Cl}
theorem gO_e {c : Nat} {p : List (Option Nat)} (h : shp K n a = some (.inl (c, p))) : gO (enc I D K n Z) a = some (c, mkfs p 0 (I a)) := by
  have ha := shp_lt h
  simp [gO, enc, cellAt, h, ha]
theorem gA_e {t m : Nat} (h : shp K n a = some (.inr (.inl (t, m)))) : gA (enc I D K n Z) a t = some (m, I a) := by
  have ha := shp_lt h
  simp [gA, enc, cellAt, h, ha]
theorem gQ_e {t m : Nat} (h : shp K n a = some (.inr (.inr (t, m)))) : gQ (enc I D K n Z) a t = some (m, D a) := by
  have ha := shp_lt h
  simp [gQ, enc, cellAt, h, ha]
theorem gI_e {c : Nat} {p : List (Option Nat)} (h : shp K n a = some (.inl (c, p))) (k : Nat) (hk : p[k]? = some none) : gI (enc I D K n Z) a c k = some (I a k) := by
  simp [gI, gO_e h, mkfs_get, hk]
theorem gN_e {c r : Nat} {p : List (Option Nat)} (h : shp K n a = some (.inl (c, p))) (k : Nat) (hk : p[k]? = some (some r)) : gN (enc I D K n Z) a c k = some r := by
  simp [gN, gO_e h, mkfs_get, hk]
theorem isC_e {c : Nat} {p : List (Option Nat)} (h : shp K n a = some (.inl (c, p))) : isC (enc I D K n Z) a c = some () := by
  simp [isC, gO_e h]
theorem up_cell {c : Nat} {p : List (Option Nat)} {r : Nat → Int32} (h : shp K n a = some (.inl (c, p))) : hup (enc I D K n Z) a (.inr (.inr (c, mkfs p 0 r))) = enc (va_up I a r) D K n Z := by
  simp only [hup, enc]
  congr 1
  funext b
  by_cases hb : b = a
  · subst hb
    simp [va_up, cellAt, h]
  · simp [va_up, cellAt, hb]
theorem up_row {t m : Nat} {r : Nat → Int32} (h : shp K n a = some (.inr (.inl (t, m)))) : hup (enc I D K n Z) a (.inl (t, m, r)) = enc (va_up I a r) D K n Z := by
  simp only [hup, enc]
  congr 1
  funext b
  by_cases hb : b = a
  · subst hb
    simp [va_up, cellAt, h]
  · simp [va_up, cellAt, hb]
theorem up_doors {t m : Nat} {r : Nat → Option Nat} (h : shp K n a = some (.inr (.inr (t, m)))) : hup (enc I D K n Z) a (.inr (.inl (t, m, r))) = enc I (va_up D a r) K n Z := by
  simp only [hup, enc]
  congr 1
  funext b
  by_cases hb : b = a
  · subst hb
    simp [va_up, cellAt, h]
  · simp [va_up, cellAt, hb]
theorem pV_e {c : Nat} {p : List (Option Nat)} (h : shp K n a = some (.inl (c, p))) (k : Nat) (hk : p[k]? = some none) (v : Int32) : pV (enc I D K n Z) a c k (.inl v) = some (enc (va_up I a (upd (I a) k v)) D K n Z) := by
  have hl : k < p.length := (List.getElem?_eq_some_iff.mp hk).1
  simp only [pV, gO_e h, mkfs_len, hl, and_self, if_true, mkfs_set p 0 k _ v hk, Nat.zero_add, up_cell h]
theorem ald_e {t m : Nat} (h : shp K n a = some (.inr (.inl (t, m)))) (i : Int32) (hi : ¬ (i < 0 ∨ m ≤ i.toNatClampNeg)) : ald (enc I D K n Z) a t i = some (I a i.toNatClampNeg) := by
  simp only [ald, gA_e h, if_neg hi]
theorem ast_e {t m : Nat} (h : shp K n a = some (.inr (.inl (t, m)))) (i x : Int32) (hi : ¬ (i < 0 ∨ m ≤ i.toNatClampNeg)) : ast (enc I D K n Z) a t i x = some (enc (va_up I a (upd (I a) i.toNatClampNeg x)) D K n Z) := by
  simp only [ast, gA_e h, if_neg hi, up_row h]
theorem ald_n {t m : Nat} (h : shp K n a = some (.inr (.inl (t, m)))) (k : Nat) (hk : k < m) (hm : m < 2 ^ 31) : ald (enc I D K n Z) a t (nI k) = some (I a k) := by
  have hc := nI_clamp (n := k) (by omega)
  rw [ald_e h (nI k) (nI_in hk hm), hc]
theorem ast_n {t m : Nat} (h : shp K n a = some (.inr (.inl (t, m)))) (k : Nat) (x : Int32) (hk : k < m) (hm : m < 2 ^ 31) : ast (enc I D K n Z) a t (nI k) x = some (enc (va_up I a (upd (I a) k x)) D K n Z) := by
  have hc := nI_clamp (n := k) (by omega)
  rw [ast_e h (nI k) x (nI_in hk hm), hc]
theorem aln_e {t m : Nat} (h : shp K n a = some (.inr (.inl (t, m)))) : aln (enc I D K n Z) a t = some (nI m) := by
  simp only [aln, gA_e h, nI]
theorem qln_e {t m : Nat} (h : shp K n a = some (.inr (.inr (t, m)))) : qln (enc I D K n Z) a t = some (nI m) := by
  simp only [qln, gQ_e h, nI]
theorem aldq_e {t m : Nat} (h : shp K n a = some (.inr (.inr (t, m)))) (k : Nat) (hk : k < m) (hm : m < 2 ^ 31) : aldq (enc I D K n Z) a t (nI k) = some (D a k) := by
  have hc := nI_clamp (n := k) (by omega)
  have hi := nI_in hk hm
  rw [hc] at hi
  simp only [aldq, gQ_e h, hc, if_neg hi]
theorem aldn_e {t m : Nat} (h : shp K n a = some (.inr (.inr (t, m)))) (k : Nat) (hk : k < m) (hm : m < 2 ^ 31) : aldn (enc I D K n Z) a t (nI k) = D a k := by
  simp only [aldn, aldq_e h k hk hm]
/-- a door's cell -/
def isDr (K : Nat → Nat) (n q : Nat) : Prop := 177 ≤ q ∧ q < 177 + n ∧ isD (K q) = true
theorem shp_dr {q : Nat} (h : isDr K n q) : shp K n q = some (.inl (K q, [none, none, none, none])) := by
  obtain ⟨h1, h2, h3⟩ := h
  simp [shp, show ¬ q < 30 by omega, show ¬ q < 46 by omega, show ¬ q < 162 by omega, show ¬ q < 177 by omega, h2]
theorem gC_e {q : Nat} (h : isDr K n q) : gC (enc I D K n Z) q = some (K q) := by
  simp [gC, gO_e (shp_dr h), h.2.2]
theorem gD_e {q : Nat} (h : isDr K n q) (k : Nat) (hk : k < 4) : gD (enc I D K n Z) q k = some (I q k) := by
  have hp : ([none, none, none, none] : List (Option Nat))[k]? = some none := by
    rcases (show k = 0 ∨ k = 1 ∨ k = 2 ∨ k = 3 by omega) with rfl | rfl | rfl | rfl <;> rfl
  simp [gD, gO_e (shp_dr h), h.2.2, mkfs_get, hp]
theorem astq_e {m : Nat} (h : shp K n a = some (.inr (.inr (4, m)))) (k : Nat) (r : Option Nat) (hr : ∀ q, r = some q → isDr K n q) (hk : k < m) (hm : m < 2 ^ 31) : astq (enc I D K n Z) a 4 (nI k) r = some (enc I (va_up D a (va_up (D a) k r)) K n Z) := by
  have hc := nI_clamp (n := k) (by omega)
  have ho : okq (enc I D K n Z) 4 r = true := by
    cases r with
    | none => rfl
    | some q =>
      have hq := hr q rfl
      simp [okq, gO_e (shp_dr hq), hq.2.2]
  have hi : ¬ ((nI k < 0 ∨ m ≤ (nI k).toNatClampNeg) ∨ ¬ okq (enc I D K n Z) 4 r = true) := fun q => q.elim (nI_in hk hm) (fun z => z ho)
  rw [hc] at hi
  simp only [astq, gQ_e h, hc, if_neg hi, up_doors h]
/-- a new door -/
theorem new_e {c : Nat} {f : List Vl} (x0 x1 x2 x3 : Int32) (hf : f = [.inl x0, .inl x1, .inl x2, .inl x3]) : hnew (enc I D K n Z) (.inr (.inr (c, f))) = enc (va_up I (177 + n) (fun k => if k = 0 then x0 else if k = 1 then x1 else if k = 2 then x2 else x3)) D (va_up K (177 + n) c) (n + 1) Z := by
  subst hf
  simp only [hnew, enc, Nat.add_assoc]
  congr 1
  funext b
  by_cases hb : b = 177 + n
  · subst hb
    have e : shp (va_up K (177 + n) c) (n + 1) (177 + n) = some (.inl (c, [none, none, none, none])) := by
      simp [shp, show ¬ 177 + n < 30 by omega, show ¬ 177 + n < 46 by omega, show ¬ 177 + n < 162 by omega, show ¬ 177 + n < 177 by omega, va_up]
    simp [va_up_self, cellAt, e, mkfs]
  · have e : shp (va_up K (177 + n) c) (n + 1) b = shp K n b := by
      unfold shp
      rw [va_up_ne _ _ hb]
      by_cases h1 : b < 30
      · simp only [h1, if_true]
      · by_cases h2 : b < 46
        · simp only [h1, h2, if_true, if_false]
        · by_cases h3 : b < 162
          · simp only [h1, h2, h3, if_true, if_false]
          · by_cases h4 : b < 177
            · simp only [h1, h2, h3, h4, if_true, if_false]
            · by_cases h5 : b < 177 + n
              · simp only [h1, h2, h3, h4, h5, show b < 177 + (n + 1) by omega, if_true, if_false]
              · simp only [h1, h2, h3, h4, h5, show ¬ b < 177 + (n + 1) by omega, if_false]
    rw [va_up_ne _ _ hb]
    unfold cellAt
    rw [e, va_up_ne _ _ hb]
end Enc
/-! A HEAP THAT HAS THE SHAPE IS enc OF WHAT IT HOLDS -/
def xI (c : Cl) : Nat → Int32 := match c with
  | .inl (_, _, f) => f
  | .inr (.inr (_, fs)) => fun k => match fs[k]? with
    | some (.inl x) => x
    | _ => 0
  | _ => fun _ => 0
def xD (c : Cl) : Nat → Option Nat := match c with
  | .inr (.inl (_, _, f)) => f
  | _ => fun _ => none
def chk (c : Cl) (s : Option Shp) : Bool := match c, s with
  | .inr (.inr (c, fs)), some (.inl (c2, p)) => c == c2 && decide (fs = mkfs p 0 (xI (.inr (.inr (c, fs)))))
  | .inl (t, m, _), some (.inr (.inl (t2, m2))) => t == t2 && m == m2
  | .inr (.inl (t, m, _)), some (.inr (.inr (t2, m2))) => t == t2 && m == m2
  | _, _ => false
theorem chk_enc {h : Hp} {K : Nat → Nat} (hn : h.1 = 177) (hc : ∀ a, a < 177 → chk (h.2 a) (shp K 0 a) = true) : h = enc (fun a => xI (h.2 a)) (fun a => xD (h.2 a)) K 0 h.2 := by
  obtain ⟨m, f⟩ := h
  simp only at hn hc
  subst hn
  simp only [enc]
  congr 1
  funext a
  by_cases ha : a < 177
  · have q := hc a ha
    unfold cellAt
    dsimp only
    generalize shp K 0 a = s at q ⊢
    generalize f a = c at q ⊢
    unfold chk at q
    split at q
    · simp only [Bool.and_eq_true, beq_iff_eq, decide_eq_true_eq] at q
      obtain ⟨rfl, q2⟩ := q
      simp only [← q2]
    · simp only [Bool.and_eq_true, beq_iff_eq] at q
      obtain ⟨rfl, rfl⟩ := q
      rfl
    · simp only [Bool.and_eq_true, beq_iff_eq] at q
      obtain ⟨rfl, rfl⟩ := q
      rfl
    · cases q
  · have e : shp K 0 a = none := by simp [shp, show ¬ a < 30 by omega, show ¬ a < 46 by omega, show ¬ a < 162 by omega, ha]
    simp only [cellAt, e]
/-! BOTH OBJECTS MADE -/
def mkBoth : Option Hp := nw hp0 (.inr (.inr (10, [.inr none, .inr none, .inr none, .inr none, .inr none, .inr none, .inr none, .inr none, .inr none, .inr none, .inr none, .inr none, .inl 0, .inl 0, .inl 0, .inl 0]))) fun q2 h1 => bA (f_X11_init h1 q2) fun h3 => nw h3 (.inr (.inr (11, [.inl 0, .inl 0, .inr none, .inr none, .inr none, .inr none, .inr none, .inr none, .inr none, .inl 0, .inr none, .inl 0, .inl 0, .inl 0, .inl 0, .inl 0, .inl 0, .inl 0, .inl 0, .inr none, .inr none, .inl 0, .inl 0, .inl 0, .inl 0, .inl 0, .inr none, .inl 0, .inr none, .inr none, .inr none, .inl 0]))) fun q12 h11 => f_X12_init h11 q12
def hB : Hp := mkBoth.getD hp0
set_option maxRecDepth 100000 in
theorem mk_some : mkBoth.isSome = true := by decide +kernel
set_option maxRecDepth 100000 in
theorem hB_n : hB.1 = 177 := by decide +kernel
set_option maxRecDepth 100000 in
theorem hB_chk : ∀ a, a < 177 → chk (hB.2 a) (shp (fun _ => 0) 0 a) = true := by decide +kernel
