/-! PURE 40: toss and element agree; the start -/
theorem fXt_eq (k f : Int32) (σ : nS) : fXt k f σ = (if k = (3 : Int32) then some (-15 : Int32) else if k = (4 : Int32) then some (-15 : Int32) else if f = 0 then some (-15 : Int32) else if k = (7 : Int32) then (fX6_costBy k f σ).bind fun r8 => some (((200 : Int32) + r8)) else if k = (2 : Int32) then some (((100 : Int32) + f)) else if k = (6 : Int32) then some (((100 : Int32) + f)) else some f) := by
  rw [cost_eq]
  by_cases h0 : f = 0
  · have e : fF k f = none := by rw [fF, if_pos h0]
    rw [fXt, e]
    simp [h0]
  · by_cases h3 : k = 3
    · have e : fF k f = none := by rw [fF, if_neg h0, if_pos h3]
      rw [fXt, e, if_pos h3]
    · by_cases h4 : k = 4
      · have e : fF k f = none := by rw [fF, if_neg h0, if_neg h3, if_pos h4]
        rw [fXt, e, if_neg h3, if_pos h4]
      · rw [if_neg h3, if_neg h4, if_neg h0]
        by_cases h7 : k = 7
        · have e : fF k f = some "java/lang/UnsupportedOperationException" := by rw [fF, if_neg h0, if_neg h3, if_neg h4, if_pos h7]
          rw [fXt, e, if_pos h7]
          exact if_pos rfl
        · rw [if_neg h7]
          by_cases h2 : k = 2
          · have e : fF k f = some "java/lang/IllegalStateException" := by rw [fF, if_neg h0, if_neg h3, if_neg h4, if_neg h7, if_pos h2]
            rw [fXt, e, if_pos h2]
            exact (if_neg neSU).trans (if_pos rfl)
          · rw [if_neg h2]
            by_cases h6 : k = 6
            · have e : fF k f = some "java/lang/IllegalStateException" := by rw [fF, if_neg h0, if_neg h3, if_neg h4, if_neg h7, if_neg h2, if_pos h6]
              rw [fXt, e, if_pos h6]
              exact (if_neg neSU).trans (if_pos rfl)
            · have e : fF k f = some "java/lang/IllegalArgumentException" := by rw [fF, if_neg h0, if_neg h3, if_neg h4, if_neg h7, if_neg h2, if_neg h6]
              rw [fXt, e, if_neg h6]
              exact (if_neg neAU).trans (if_neg neAS)
theorem fXt_some (k f : Int32) (σ : nS) : ∃ r, fXt k f σ = some r := by
  obtain ⟨v, hv⟩ := cost_some k f σ
  rw [fXt_eq, cost_eq, hv]
  simp only [Option.bind]
  repeat' split
  all_goals exact ⟨_, rfl⟩
theorem S_toss {σ : nS} (I : Inv σ) (x : Int32) : Sff σ (fX5_toss x) (fX6_toss x) := by
  simp only [Sff, fX5_toss, fX6_toss, C_isShelf, pb]
  cases h : decide (nin x 8) with
  | false => rw [thing_no h, pb]; simp only [bif0, if_true]; exact ⟨-1, rfl, by simp⟩
  | true =>
    obtain ⟨d, hd, rfl⟩ := gtn h (by omega)
    have hs := I.2.2.2 d hd
    simp (disch := omega) only [bit0, if_false, pnl, pb, pb2, pinc, pnin, pc0, if_pos, if_true]
    rcases thing_case I hd with ⟨e, e1, e2⟩ | ⟨v, hv, e1, e2⟩
    · obtain ⟨a1, a2, -, -⟩ := hs.2.2.1 e
      obtain ⟨r, hr⟩ := fXt_some (σ 73 d) (σ 74 d) σ
      rw [e1, e2, pb, pb]
      simp (disch := omega) only [if_true, a1, a2, pnl, pb, pb2, pinc, pnin, pc0, if_pos, if_true]
      refine ⟨r, hr, ?_⟩
      rw [← hr, fXt_eq]
    · rw [e1, e2, pb, pb]
      simp only [hv, if_false]
      exact ⟨v, rfl, rfl⟩
theorem refusal2 (k : Nat) (σ : nS) : fX1_refusal k 2 σ = some (if σ k 0 = 0 then -11 else if σ k 0 = 2 then 0 else -12) := by
  rw [fX1_refusal]
  split
  · rfl
  · split <;> rfl
theorem b43_n {x y z : Int32} {υ : nS} (hz : ¬ z = 0) : fX6_element_b43 x y z υ = some (0, nU υ 63 (upd (υ 63) 21 z)) := by
  rw [fX6_element_b43, pnl, nU_s, upd_s, if_neg hz]
theorem thr_inv {υ : nS} (I : Inv υ) (z : Int32) : Inv (nU υ 63 (upd (υ 63) 21 z)) := by
  refine I.frame (fun j hj => nU_n _ _ (by unfold core at hj; omega)) (by rw [nU_n _ _ (by omega)]) ?_
  rw [nU_s]
  simp (disch := omega) only [upd_n]
theorem S_element {σ : nS} (I : Inv σ) (x y : Int32) : ∃ (kk : Nat) (v : Int32), fXe x y σ = some (kk, v) ∧ kk < 3 ∧ ∀ υ : nS, (∀ j, j ≠ 78 → υ j = σ j) → ∃ b τ, fX6_element x y υ = some (b, τ) ∧ τ 63 21 = nI kk ∧ (kk = 0 → b = v.toInt64) ∧ (∀ j, j ≠ 63 → τ j = υ j) ∧ Inv τ := by
  have Iu : ∀ υ : nS, (∀ j, j ≠ 78 → υ j = σ j) → Inv υ := fun υ h => I.frame (fun j hj => h j (by unfold core at hj; omega)) (by rw [h 0 (by omega)]) (by rw [h 63 (by omega)])
  have thr : ∀ (z : Int32) (kk : Nat) (v : Int32), ¬ z = 0 → z = nI kk → ¬ kk = 0 → ∀ υ : nS, (∀ j, j ≠ 78 → υ j = σ j) → ∃ b τ, fX6_element_b43 x y z υ = some (b, τ) ∧ τ 63 21 = nI kk ∧ (kk = 0 → b = v.toInt64) ∧ (∀ j, j ≠ 63 → τ j = υ j) ∧ Inv τ := fun z kk v hz hk h0 υ hu =>
    ⟨0, _, b43_n hz, by rw [nU_s, upd_s]; exact hk, fun q => absurd q h0, fun j hj => nU_n _ _ hj, thr_inv (Iu υ hu) z⟩
  cases h : decide (nin x 8) with
  | false =>
    refine ⟨1, 0, by rw [fXe, C_isShelf, h, pb]; simp only [bif0, if_true], by omega, fun υ hu => ?_⟩
    obtain ⟨b, τ, h1, h2⟩ := thr 1 1 0 (by decide) rfl (by omega) υ hu
    exact ⟨b, τ, by rw [fX6_element, M_isShelf, h, pb]; simp only [bif0, if_true]; exact h1, h2⟩
  | true =>
    obtain ⟨d, hd, rfl⟩ := gtn h (by omega)
    have hs := I.2.2.2 d hd
    obtain ⟨N, hN, eN⟩ := pof hs.2.2.2.2.2.2.1 (by omega)
    have e4 : σ (29 + 2 * d) 4 = nI N := by rw [hs.2.2.2.2.2.1]; exact eN
    by_cases e : σ 72 d = 2
    · have er : fX1_refusal (29 + 2 * d) 2 σ = some 0 := by rw [refusal2, hs.1, e]; rfl
      cases h2 : decide (nin y N) with
      | false =>
        refine ⟨2, 0, ?_, by omega, fun υ hu => ?_⟩
        · rw [fXe, C_isShelf, h, pb]
          simp (disch := omega) only [bit0, if_false, pnl, pb, pb2, pinc, pnin, pc0, if_pos, if_true, er, C_isPlace y e4 (show N ≤ 100 by omega), h2]
          simp only [bif0, if_true]
        · obtain ⟨b, τ, h1, h3⟩ := thr 2 2 0 (by decide) rfl (by omega) υ hu
          refine ⟨b, τ, ?_, h3⟩
          rw [fX6_element, M_isShelf, h, pb]
          simp (disch := omega) only [bit0, if_false, pnl, pb, pb2, p43, p344, p28, p66, pa0, pinc, pa2, pa3, pk0, pk1, pk2, pk3, tc0, tc1, tc2, tc3, pnin, pc0, if_pos, if_true, fX6_ofG, fX6_ofL, hu 72 (by omega), hu 76 (by omega), e, eN, M_isInG y (show N ≤ 100 by omega), h2]
          simp only [bif0, if_true, fX6_element_b38]
          exact h1
      | true =>
        obtain ⟨i, hi, rfl⟩ := gtn h2 (by omega)
        refine ⟨0, σ (29 + 2 * d + 1) i, ?_, by omega, fun υ hu => ?_⟩
        · rw [fXe, C_isShelf, h, pb]
          simp (disch := omega) only [bit0, if_false, pnl, pb, pb2, pinc, pnin, pc0, if_pos, if_true, er, C_isPlace (nI i) e4 (show N ≤ 100 by omega), h2]
          rw [decide_eq_true hi]
          simp only [bit0, if_false]
        · refine ⟨(σ 77 (100 * d + i)).toInt64, nU υ 63 (upd (υ 63) 21 0), ?_, by rw [nU_s, upd_s]; rfl, fun _ => by rw [hs.2.2.2.2.2.2.2.1 i (by omega)], fun j hj => nU_n _ _ hj, thr_inv (Iu υ hu) 0⟩
          rw [fX6_element, M_isShelf, h, pb]
          simp (disch := omega) only [bit0, if_false, pnl, pb, pb2, p43, p344, p28, p66, pa0, pinc, pa2, pa3, pk0, pk1, pk2, pk3, tc0, tc1, tc2, tc3, pnin, pc0, if_pos, if_true, fX6_ofG, fX6_ofL, hu 72 (by omega), hu 76 (by omega), e, eN, M_isInG (nI i) (show N ≤ 100 by omega), h2, fX6_element_b43, p100i, nU_s, upd_s]
          rw [decide_eq_true hi]
          simp (disch := omega) only [bit0, if_false, if_true, pnin, if_pos, pc0, nU_n, hu 77 (by omega)]
    · have er : ∃ v, ¬ v = 0 ∧ fX1_refusal (29 + 2 * d) 2 σ = some v := by
        rw [refusal2, hs.1]
        by_cases q : σ 72 d = 0
        · exact ⟨-11, neg11, by rw [if_pos q]⟩
        · exact ⟨-12, neg12, by rw [if_neg q, if_neg e]⟩
      obtain ⟨v, hv, er⟩ := er
      refine ⟨2, 0, ?_, by omega, fun υ hu => ?_⟩
      · rw [fXe, C_isShelf, h, pb]
        simp (disch := omega) only [bit0, if_false, pnl, pb, pb2, pinc, pnin, pc0, if_pos, if_true, er, hv]
      · obtain ⟨b, τ, h1, h3⟩ := thr 2 2 0 (by decide) rfl (by omega) υ hu
        refine ⟨b, τ, ?_, h3⟩
        rw [fX6_element, M_isShelf, h, pb]
        simp (disch := omega) only [bit0, if_false, pnl, pb, pb2, p43, p344, p28, p66, pa0, pinc, pa2, pa3, pk0, pk1, pk2, pk3, tc0, tc1, tc2, tc3, pnin, pc0, if_pos, if_true, fX6_ofG, fX6_ofL, hu 72 (by omega), e, fX6_element_b38]
        exact h1
/-! the start -/
def σ0 : nS := fun j => if j = 9 then cU 8 else if j = 18 then cU 8 else if j = 27 then cU 8 else if j = 64 then cM 8 else z0
theorem cM8 {j : Nat} (h : j < 66) : cM 8 j = 0 := by rw [cM, if_neg (by omega)]
theorem I0 : Inv σ0 := by
  have e64 : σ0 64 = cM 8 := rfl
  refine ⟨⟨0, 0, 0, 0, ?_, ?_, by rw [e64, cM8 (by omega)]; rfl, by omega⟩, rfl, Or.inl rfl, fun d hd => ?_⟩
  · rw [e64]
    refine ⟨by omega, by omega, by omega, by rw [cM8 (by omega)]; rfl, by rw [cM8 (by omega)]; rfl, by rw [cM8 (by omega)]; rfl, fun g hg => absurd hg (by omega), fun q hq => absurd hq (by omega), fun l hl => absurd hl (by omega), fun j hj => ?_⟩
    rw [cM, if_pos ⟨by omega, by omega⟩, show 66 + j - 66 = j by omega]
    exact nin8 hj
  · refine ⟨rfl, rfl, rfl, rfl, by rw [e64, cM8 (by omega)]; rfl, fun g hg => absurd hg (by omega), fun q hq => absurd hq (by omega), fun l hl => absurd hl (by omega), fun j hj => ?_⟩
    show cU 8 j = cM 8 (66 + j)
    rw [cU, cM, if_pos hj, if_pos ⟨by omega, by omega⟩, show 66 + j - 66 = j by omega]
  · have ez : ∀ j, (29 ≤ j ∧ j ≤ 44) ∨ (72 ≤ j ∧ j ≤ 77) → σ0 j = z0 := fun j hj => by
      rw [σ0, if_neg (by omega), if_neg (by omega), if_neg (by omega), if_neg (by omega)]
    unfold SH
    rw [ez (29 + 2 * d) (by omega), ez (29 + 2 * d + 1) (by omega), ez 72 (by omega), ez 73 (by omega), ez 74 (by omega), ez 75 (by omega), ez 76 (by omega), ez 77 (by omega)]
    exact ⟨rfl, Or.inl rfl, fun q => absurd (show (0 : Int32) = 1 from q) (by decide), rfl, by show nin (0 : Int32) 3; decide, rfl, by show nin (0 : Int32) 101; decide, fun i hi => rfl, fun _ i hi => by show -128 ≤ (0 : Int32).toInt ∧ (0 : Int32).toInt < 128; decide⟩
