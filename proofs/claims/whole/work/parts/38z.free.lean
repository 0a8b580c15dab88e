/-! PURE 29b: what is free -/
theorem pfree : ∀ v, v < 256 → ∀ u, u < 256 → nI v &&& (nI u ^^^ (-1 : Int32)) = nI (v &&& (255 ^^^ u)) := by decide +kernel
