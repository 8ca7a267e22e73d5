/-! a set within another, by bits -/
theorem andnot : ∀ s, s < 256 → ∀ f, f < 256 → (decide ((nI s &&& (nI f ^^^ (-1 : Int32))) = 0) = decide (s &&& f = s)) := by decide +kernel
theorem andnot' {s f : Nat} (hs : s < 256) (hf : f < 256) : ((nI s &&& (nI f ^^^ (-1 : Int32))) = 0) = (s &&& f = s) := by
  have q := andnot s hs f hf
  exact propext (decide_eq_decide.mp q)
