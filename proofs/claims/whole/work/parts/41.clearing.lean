/-! PURE 32: clearing -/
theorem p2x' {G : Nat} (hG : G ≤ 8) : (1 : Int32) <<< (nI G &&& 31) = nI (2 ^ G) := pshl G (by omega)
theorem C_lookS {σ : nS} {r : Nat → Int32} {G P L : Nat} (hc : CT σ 1 r G P L) (hw : WF r G P L) : ∃ τ, fX0_look 1 σ = some ((), τ) ∧ KN τ (cpay r) G L ∧ Fs σ τ := by
  have hG := hw.1
  have hL := hw.2.2.1
  have h28 : 2 ^ G ≤ 2 ^ 8 := Nat.pow_le_pow_right (by omega) hG
  rw [fX0_look, pnl, hc.2.2.1]
  refine ploopS (fun n l τ => fX0_look_b10 n 1 (nI l) τ) (fun l τ => τ 48 2 = nI L ∧ (∀ j, j < l → τ 49 j = nI (bset (cpay r j) G)) ∧ (∀ j, j < l → ∀ u, u < 2 ^ G → τ (51 + j) u = -1) ∧ Fs σ τ) (fun o => ∃ τ, o = some ((), τ) ∧ KN τ (cpay r) G L ∧ Fs σ τ) L
    (fun n τ hI => ?_) (fun n l τ hl hI hk => ?_) 4096 0 _ (by omega) (by omega) ⟨by rw [nU_s, upd_s], fun j h => by omega, fun j h => by omega, fun j hj => nU_n _ _ (by omega)⟩
  · obtain ⟨i1, i2, i3, i4⟩ := hI
    rw [fX0_look_b10, i1, if_pos (by rw [ple (by omega) (by omega)]; omega)]
    exact ⟨τ, rfl, ⟨i1, i2, fun l hl u hu => Or.inl (i3 l hl u hu)⟩, i4⟩
  · obtain ⟨i1, i2, i3, i4⟩ := hI
    have c' : ¬ nI L ≤ nI l := by rw [ple (by omega) (by omega)]; omega
    have hc' : CT τ 1 r G P L := hc.frame (fun j q1 q2 => i4 j (by omega))
    rw [fX0_look_b10, i1, if_neg c', C_payers hc' hw hl, pb, if_pos (pnd (by omega)), pcd (by omega), pnl, pl0]
    refine ploopS (fun m u τ' => fX0_look_b31 (fX0_look_b10 n) m 1 (nI l) (nI u) τ') (fun u τ' => τ' 48 2 = nI L ∧ (∀ j, j < l + 1 → τ' 49 j = nI (bset (cpay r j) G)) ∧ (∀ j, j < l → ∀ u, u < 2 ^ G → τ' (51 + j) u = -1) ∧ (∀ v, v < u → τ' (51 + l) v = -1) ∧ Fs σ τ') (fun o => ∃ τ, o = some ((), τ) ∧ KN τ (cpay r) G L ∧ Fs σ τ) (2 ^ G)
      (fun m τ' hJ => ?_) (fun m u τ' hu hJ hk2 => ?_) 4096 0 _ (Nat.zero_le _) (by omega) ⟨?_, fun j hj => ?_, fun j hj u hu => ?_, fun v hv => by omega, fun j hj => ?_⟩
    · obtain ⟨j1, j2, j3, j4, j5⟩ := hJ
      have e3 : τ' 1 3 = nI G := by rw [j5 1 (by omega)]; exact hc.1
      rw [fX0_look_b31, e3, p2x' hG, if_pos (by rw [ple (by omega) (by omega)]; omega), pnl, pinc]
      refine hk τ' ⟨j1, j2, fun j hj v hv => ?_, j5⟩
      by_cases q : j = l
      · subst q; exact j4 v hv
      · exact j3 j (by omega) v hv
    · obtain ⟨j1, j2, j3, j4, j5⟩ := hJ
      have e3 : τ' 1 3 = nI G := by rw [j5 1 (by omega)]; exact hc.1
      rw [fX0_look_b31, e3, p2x' hG, if_neg (by rw [ple (by omega) (by omega)]; omega), if_pos (pnd (by omega)), if_pos (pnin0 (by omega) (show u < 256 by omega)), pcd (by omega), pc0 (by omega), pnl, pnl, pinc]
      refine hk2 _ ⟨?_, fun j hj => ?_, fun j hj v hv => ?_, fun v hv => ?_, fun j hj => ?_⟩
      · rw [nU_n _ _ (by omega)]; exact j1
      · rw [nU_n _ _ (by omega)]; exact j2 j hj
      · rw [nU_n _ _ (by omega)]; exact j3 j hj v hv
      · rw [nU_s]
        by_cases q : v = u
        · subst q; rw [upd_s]
        · rw [upd_n _ _ q]; exact j4 v (by omega)
      · rw [nU_n _ _ (by omega)]; exact j5 j hj
    · rw [nU_n _ _ (by omega)]; exact i1
    · rw [nU_s]
      by_cases q : j = l
      · subst q; rw [upd_s]
      · rw [upd_n _ _ q]; exact i2 j (by omega)
    · rw [nU_n _ _ (by omega)]; exact i3 j hj u hu
    · rw [nU_n _ _ (by omega)]; exact i4 j hj
/-- what the reference gives loan j is what the class does -/
theorem ga_uz {ok : Nat → Nat → Bool} {G L : Nat} : ∀ k l j, l + k = L → l ≤ j → j < L → ga ok G k l (uz ok G L l) j = enc (gc ok G (L - (j + 1)) j (uz ok G L j)) := by
  intro k
  induction k with
  | zero => intro l j h1 h2 h3; omega
  | succ k ih =>
    intro l j h1 h2 h3
    rw [ga_s]
    by_cases c : j = l
    · subst c
      rw [if_pos rfl, show L - (j + 1) = k by omega]
    · rw [if_neg c]
      have h9 := ih (l + 1) j (by omega) (by omega) h3
      rw [uz, show L - (l + 1) = k by omega] at h9
      exact h9
theorem S_clearing {σ : nS} (I : Inv σ) (x : Int32) : See σ (fX5_clearing x) (fX6_clearing x) := by
  obtain ⟨G, P, L, w, hw, hc, h3, h4, hG, hP, hL⟩ := I.1.get
  obtain ⟨τ, b1, b2, b3⟩ := C_lookS hc hw
  have mod : ∀ υ : nS, Fs σ υ → ∃ κ, (∀ y, fX6_clearing_b15 y υ = if 0 ≤ y then if nin y 8 then some (κ 70 y.toNatClampNeg, κ) else none else some (κ 63 11, κ)) ∧ κ 63 11 = nI (mp (cpay (σ 64)) G L 0 0) ∧ (∀ j, j < L → κ 70 j = enc (gc (cpay (σ 64)) G (L - (j + 1)) j (uz (cpay (σ 64)) G L j))) ∧ Inv κ := by
    intro υ f
    have e64 : υ 64 = σ 64 := f 64 (by omega)
    obtain ⟨κ, a1, a2, a3, a4, a5⟩ := M_clears hw L 20 0 0 0 0 (nU υ 63 (upd (υ 63) 11 (-1))) (by omega) (by omega) (Nat.pow_pos (by omega)) (by omega) (by omega) (by rw [nU_n _ _ (by omega)]; exact e64) (by rw [nU_s, upd_s]; decide)
    obtain ⟨r1, r2⟩ := a2 (by omega)
    rw [Nat.zero_add] at r1
    refine ⟨κ, fun y => ?_, r1, fun j hj => ?_, I.frame (fun j hj => ?_) ?_ ?_⟩
    · rw [fX6_clearing_b15, pnl, pl0, a1, pb2]
    · rw [r2 j hj, if_neg (by omega)]
      exact ga_uz L 0 j (by omega) (by omega) hj
    · unfold core at hj
      rw [a5.1 j (by omega) (by omega) (by omega), nU_n _ _ (by omega)]
      exact f j (by omega)
    · rw [a5.1 0 (by omega) (by omega) (by omega), nU_n _ _ (by omega), f 0 (by omega)]
    · rw [a5.2 4 (by omega), nU_s, upd_n _ _ (by omega), f 63 (by omega)]
  simp only [See, fX5_clearing, fX6_clearing, C_isLoan x hc.2.2.1 hL, pb]
  by_cases c1 : x = -1
  · subst c1
    simp only [if_true, fX5_clearing_b18, b1, pb2]
    obtain ⟨υ, d1, d2, d3⟩ := C_mostPaid hG hL L 20 0 0 τ (by omega) (by omega) (Nat.pow_pos (by omega)) b2
    obtain ⟨κ, k1, k2, k3, k4⟩ := mod υ (b3.tr d3)
    rw [pl0, d1, pb2]
    refine ⟨_, υ, κ, rfl, ?_, k4⟩
    rw [k1 (-1), if_neg (by decide), k2]
  · simp only [if_neg c1]
    cases h : decide (nin x L) with
    | false =>
      simp only [bif0, if_true]
      exact ⟨_, _, σ, rfl, by rw [M_isLoan x hw.2.2.2.2.2.1 hL, h, pb]; simp only [bif0, if_true], I⟩
    | true =>
      have q1 := h
      obtain ⟨l, hl, rfl⟩ := gtn h (by omega)
      simp only [bit0, if_false, fX5_clearing_b18, b1, pb2, if_neg c1]
      obtain ⟨υ, d1, d2, d3⟩ := C_payment hG hL hl b2
      obtain ⟨κ, k1, k2, k3, k4⟩ := mod υ (b3.tr d3)
      rw [d1, pb2]
      refine ⟨_, υ, κ, rfl, ?_, k4⟩
      have e64 : υ 64 = σ 64 := (b3.tr d3) 64 (by omega)
      rw [M_isLoan _ (by rw [e64]; exact hw.2.2.2.2.2.1) hL, q1, pb]
      simp only [bit0, if_false]
      rw [k1, if_pos (by rw [pge0 (by omega)]; trivial), if_pos (pnd (by omega)), pcd (by omega), k3 l hl]
