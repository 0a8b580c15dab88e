/-! PURE 21: fractions: neither side looks at what there is; markets and means have few values -/
theorem gd_irr (σ τ : nS) : ∀ n a b i, fX5_greatestDivisor_b9 n a b i σ = fX5_greatestDivisor_b9 n a b i τ := by
  intro n
  induction n with
  | zero => intro a b i; rfl
  | succ n ih =>
    intro a b i
    rw [fX5_greatestDivisor_b9, fX5_greatestDivisor_b9]
    simp only [pnl, ih]
theorem C_partOf_irr (σ τ : nS) (a b : Int64) (p : Int32) : fX5_partOf a b p σ = fX5_partOf a b p τ := by
  rw [fX5_partOf, fX5_partOf, fX5_greatestDivisor, fX5_greatestDivisor, gd_irr σ τ]
theorem gcd_irr (σ τ : nS) : ∀ n a b, fX6_gcd_b6 n a b σ = fX6_gcd_b6 n a b τ := by
  intro n
  induction n with
  | zero => intro a b; rfl
  | succ n ih =>
    intro a b
    rw [fX6_gcd_b6, fX6_gcd_b6]
    simp only [pnl, ih]
theorem M_partOf_irr (σ τ : nS) (a b : Int64) (p : Int32) : fX6_partOf a b p σ = fX6_partOf a b p τ := by
  rw [fX6_partOf, fX6_partOf]
  simp only [fX6_partOf_b20, fX6_gcd, gcd_irr σ τ]
def oeq (x y : Option Int64) : Bool := match x, y with | some a, some b => a == b | _, _ => false
theorem oeq_ok {x y : Option Int64} (h : oeq x y = true) : ∃ v, x = some v ∧ y = some v := by
  cases x with
  | none => cases h
  | some a =>
    cases y with
    | none => cases h
    | some b =>
      have e : a = b := by
        have h2 : (a == b) = true := h
        exact beq_iff_eq.mp h2
      exact ⟨a, rfl, by rw [e]⟩
def pw (t : Int64) : Nat → Int64
  | 0 => 1
  | k + 1 => pw t k * t
theorem market_tab : ∀ t, t < 21 → 2 ≤ t → ∀ k, k < 6 → ∀ p, p < 2 → oeq (fX5_partOf (pw (nI t).toInt64 k - pw (nI t - 1).toInt64 k) (pw (nI t).toInt64 k) (nI p) σz) (fX6_partOf (pw (nI t).toInt64 k - pw (nI t - 1).toInt64 k) (pw (nI t).toInt64 k) (nI p) σz) = true := by decide +kernel
theorem mean_tab0 : ∀ p, p < 2 → oeq (fX5_partOf 0 1 (nI p) σz) (fX6_partOf 0 ((nI 0).toInt64) (nI p) σz) = true := by decide +kernel
theorem mean_tab : ∀ g, g < 8 → ∀ v, v < 512 → ∀ p, p < 2 → oeq (fX5_partOf (nI v).toInt64 (nI (g + 1)).toInt64 (nI p) σz) (fX6_partOf (nI v).toInt64 (nI (g + 1)).toInt64 (nI p) σz) = true := by decide +kernel
