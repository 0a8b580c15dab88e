/-! PURE 14: rows made, put, copied -/
theorem p100i (d i : Nat) : (100 : Int32) * nI d + nI i = nI (100 * d + i) := by rw [pl100, pmul, padd]
theorem C_holdRow {σ : nS} {k : Nat} : fX1_holdRow_b17 4096 k (nI 0) σ = some ((), nU σ (k + 1) (fun j => if j < 100 then 0 else σ (k + 1) j)) := by
  have key := ploop (fun n i => fX1_holdRow_b17 n k (nI i) (nU σ (k + 1) (fun j => if j < i then 0 else σ (k + 1) j))) (some ((), nU σ (k + 1) (fun j => if j < 100 then 0 else σ (k + 1) j))) 100
    (fun n => by simp (disch := omega) only [fX1_holdRow_b17, pnl, pb, pb2, pinc, pnin, pc0, if_pos, if_true, pl100, ple])
    (fun n i hi => by
      simp (disch := omega) only [fX1_holdRow_b17, pnl, pb, pb2, pinc, pnin, pc0, if_pos, if_true, pl100, ple, if_neg, nU_s, nUU]
      congr 2
      funext j
      by_cases c : j = i
      · subst c; simp [upd]
      · have : (j < i + 1) = (j < i) := propext (by omega)
        simp [upd, c, this])
  have h9 := key 4096 0 (by omega) (by omega)
  have e0 : (fun j => if j < 0 then (0 : Int32) else σ (k + 1) j) = σ (k + 1) := by funext j; simp
  rw [e0, nUid] at h9
  exact h9
theorem M_rowb {σ : nS} {d : Nat} (hd : d < 8) : fX6_row_b55 4096 (nI d) (nI 0) σ = some (0, nU σ 77 (fun j => if 100 * d ≤ j ∧ j < 100 * d + 100 then 0 else σ 77 j)) := by
  have key := ploop (fun n i => fX6_row_b55 n (nI d) (nI i) (nU σ 77 (fun j => if 100 * d ≤ j ∧ j < 100 * d + i then 0 else σ 77 j))) (some (0, nU σ 77 (fun j => if 100 * d ≤ j ∧ j < 100 * d + 100 then 0 else σ 77 j))) 100
    (fun n => by
      rw [fX6_row_b55, if_pos (by rw [pl100, ple (by omega) (by omega)]; omega)])
    (fun n i hi => by
      rw [fX6_row_b55, if_neg (by rw [pl100, ple (by omega) (by omega)]; omega)]
      simp (disch := omega) only [pnl, pb, pb2, pinc, pnin, pc0, if_pos, if_true, p100i, nU_s, nUU]
      congr 2
      funext j
      by_cases c : j = 100 * d + i
      · subst c; simp [upd]
      · have : (100 * d ≤ j ∧ j < 100 * d + (i + 1)) = (100 * d ≤ j ∧ j < 100 * d + i) := propext (by omega)
        simp [upd, c, this])
  have h9 := key 4096 0 (by omega) (by omega)
  have e0 : (fun j => if 100 * d ≤ j ∧ j < 100 * d + 0 then (0 : Int32) else σ 77 j) = σ 77 := by
    funext j
    rw [if_neg (by omega)]
  rw [e0, nUid] at h9
  exact h9
theorem S_row {σ : nS} (I : Inv σ) (x y z : Int32) : See σ (fX5_row x y z) (fX6_row x y z) := by
  simp only [See, fX5_row, fX6_row, C_isShelf, M_isShelf, M_isIn2, pb]
  cases h : decide (nin x 8) with
  | false => simp only [bif0, if_true]; exact ⟨-1, σ, σ, rfl, rfl, I⟩
  | true =>
    obtain ⟨d, hd, rfl⟩ := gtn h (by omega)
    simp only [bit0, if_false]
    cases h2 : decide (nin y 3) with
    | false =>
      simp only [bif0, if_true]
      rcases gfn (n := 2) h2 (by omega) with e | ⟨e, e'⟩
      · simp only [e, if_true]; exact ⟨-1, σ, σ, rfl, rfl, I⟩
      · rw [← pl2] at e'
        have e2 : ((2 : Int32) < y) = True := by
          have := of_eq_false e'
          simp [Int32.not_le.mp this]
        simp only [e, e2, if_false, if_true]; exact ⟨-1, σ, σ, rfl, rfl, I⟩
    | true =>
      have hy := of_decide_eq_true h2
      have q1 : (y < 0) = False := by rw [lt_ti, ti0]; have := hy.1; simp; omega
      have q2 : ((2 : Int32) < y) = False := by rw [lt_ti, ti2]; have := hy.2; simp; omega
      simp only [bit0, if_false, q1, q2]
      by_cases c1 : z ≤ 100
      · simp only [if_pos c1]
        by_cases c2 : 0 ≤ z
        · simp only [if_pos c2]
          have hz : nin z 101 := by
            rw [le_ti, ti100] at c1
            rw [le_ti, ti0] at c2
            exact ⟨c2, by omega⟩
          simp (disch := omega) only [pnl, pb, pb2, pinc, pnin, pc0, if_pos, if_true, fX1_holdRow, nU_s, nUU]
          rw [pl0, C_holdRow, pb2]
          refine ⟨0, _, _, rfl, M_rowb hd, ?_⟩
          · simp (disch := omega) only [nU_s, nU_n]
            refine I.shelf (fun j hj => by simp (disch := omega) only [nU_n]) (fun e he => ?_)
            have hs := I.2.2.2 e he
            by_cases c : e = d
            · subst c
              obtain ⟨h1, h2, h3, h4, h5, h6, h7, h8, h9⟩ := hs
              unfold SH
              simp (disch := omega) only [nU_n, nU_s, upd_s, upd_n]
              refine ⟨trivial, Or.inr (Or.inr trivial), fun q => absurd q (by decide), trivial, hy, trivial, hz, fun i hi => ?_, fun q i hi => ?_⟩
              · rw [if_pos hi, if_pos (by omega)]
              · rw [if_pos (by omega)]; decide
            · refine hs.point (fun j => ?_) (fun i hi => ?_) (fun j j1 j2 => ?_) (fun i hi => ?_)
              · simp (disch := omega) only [nU_n]
              · simp (disch := omega) only [nU_n]
              · by_cases p1 : j = 72
                · subst p1; simp (disch := omega) only [nU_n, nU_s, upd_n]
                by_cases p2 : j = 75
                · subst p2; simp (disch := omega) only [nU_n, nU_s, upd_n]
                by_cases p3 : j = 76
                · subst p3; simp (disch := omega) only [nU_n, nU_s, upd_n]
                simp (disch := omega) only [nU_n]
              · simp (disch := omega) only [nU_s, nU_n]
                rw [if_neg (by omega)]
        · simp only [if_neg c2]; exact ⟨-14, σ, σ, rfl, rfl, I⟩
      · simp only [if_neg c1]; exact ⟨-1, σ, σ, rfl, rfl, I⟩
theorem C_isPlace {σ : nS} {k N : Nat} (x : Int32) (e : σ k 4 = nI N) (hN : N ≤ 100) : fX1_isPlace k x σ = some (bi (decide (nin x N))) := by
  have hg := pti (n := N) (by omega)
  refine bi_c _ (fun h => ?_) (fun h => ?_)
  · simp only [fX1_isPlace, lt_ti, le_ti, e, ti0, hg]; unfold nin at h; rw [if_neg (by omega), if_neg (by omega)]
  · simp only [fX1_isPlace, lt_ti, le_ti, e, ti0, hg]; unfold nin at h
    by_cases c : x.toInt < 0
    · rw [if_pos c]
    · rw [if_neg c, if_pos (by omega)]
theorem M_isInG {σ : nS} {N : Nat} (x : Int32) (hN : N ≤ 100) : fX6_isIn x 0 (nI N - (1 : Int32)) σ = some (bi (decide (nin x N))) := by
  rw [M_isIn, tipred (show N < 1000000 by omega), ti0, decnin (x := x) (n := N)]
  unfold nin; omega
/-- a row of a shelf, both sides, one element set -/
theorem Inv.put {σ : nS} {d i : Nat} {v : Int32} (I : Inv σ) (hd : d < 8) (hi : i < 100) (hv : σ 75 d = 0 → -128 ≤ v.toInt ∧ v.toInt < 128) : Inv (nU (nU σ (29 + 2 * d + 1) (upd (σ (29 + 2 * d + 1)) i v)) 77 (upd (σ 77) (100 * d + i) v)) := by
  refine I.shelf (fun j hj => by simp (disch := omega) only [nU_n]) (fun e he => ?_)
  have hs := I.2.2.2 e he
  by_cases c : e = d
  · subst c
    obtain ⟨h1, h2, h3, h4, h5, h6, h7, h8, h9⟩ := hs
    unfold SH
    simp (disch := omega) only [nU_n, nU_s]
    refine ⟨h1, h2, h3, h4, h5, h6, h7, fun j hj => ?_, fun q j hj => ?_⟩
    · by_cases c : j = i
      · subst c; rw [upd_s, upd_s]
      · rw [upd_n _ _ c, upd_n _ _ (by omega)]; exact h8 j hj
    · by_cases c : j = i
      · subst c; rw [upd_s]; exact hv q
      · rw [upd_n _ _ (by omega)]; exact h9 q j hj
  · refine hs.point (fun j => ?_) (fun j hj => ?_) (fun j j1 j2 => ?_) (fun j hj => ?_)
    · simp (disch := omega) only [nU_n]
    · simp (disch := omega) only [nU_n]
    · simp (disch := omega) only [nU_n]
    · simp (disch := omega) only [nU_s, upd_n]
theorem byte_rng (x : Int32) : -128 ≤ x.toInt8.toInt32.toInt ∧ x.toInt8.toInt32.toInt < 128 := by
  rw [Int8.toInt_toInt32]
  have h1 := Int8.le_toInt x.toInt8
  have h2 := Int8.toInt_lt x.toInt8
  constructor <;> omega
theorem S_put {σ : nS} (I : Inv σ) (x y z : Int32) : See σ (fX5_put x y z) (fX6_put x y z) := by
  simp only [See, fX5_put, C_isShelf, pb]
  cases h : decide (nin x 8) with
  | false =>
    refine ⟨-1, σ, σ, by simp only [bif0, if_true], ?_, I⟩
    rw [fX6_put, row_no h, pb]; simp
  | true =>
    obtain ⟨d, hd, rfl⟩ := gtn h (by omega)
    have hs := I.2.2.2 d hd
    obtain ⟨N, hN, eN⟩ := pof hs.2.2.2.2.2.2.1 (by omega)
    have e4 : σ (29 + 2 * d) 4 = nI N := by rw [hs.2.2.2.2.2.1]; exact eN
    have e3 := hs.2.2.2.1
    simp (disch := omega) only [bit0, if_false, pnl, pb, pb2, pinc, pnin, pc0, if_pos, if_true]
    rcases row_case I hd with ⟨e, e1, e2⟩ | ⟨v, hv, e1, e2⟩
    · rw [e1, pb]
      simp (disch := omega) only [if_true, C_isPlace y e4 (show N ≤ 100 by omega), pb]
      cases h2 : decide (nin y N) with
      | false =>
        simp only [bif0, if_true]
        refine ⟨-13, σ, σ, rfl, ?_, I⟩
        rw [fX6_put, e2, pb]
        simp (disch := omega) only [if_true, pnl, pb, pb2, pinc, pnin, pc0, if_pos, if_true, eN, M_isInG y (show N ≤ 100 by omega), h2, bif0]
      | true =>
        have q2 := h2
        obtain ⟨i, hi, rfl⟩ := gtn h2 (by omega)
        simp only [bit0, if_false]
        have fin : ∀ v τ, fX1_fill (29 + 2 * d) (nI i) z σ = some ((), nU σ (29 + 2 * d + 1) (upd (σ (29 + 2 * d + 1)) i v)) → τ = nU σ (29 + 2 * d + 1) (upd (σ (29 + 2 * d + 1)) i v) → fX6_put (nI d) (nI i) z τ = some (0, nU τ 77 (upd (τ 77) (100 * d + i) v)) → (σ 75 d = 0 → -128 ≤ v.toInt ∧ v.toInt < 128) →
          ∃ r τ υ, (nb2 (fX1_fill (29 + 2 * d) (nI i) z σ) fun r11 t12 => some ((0 : Int32), t12)) = some (r, τ) ∧ fX6_put (nI d) (nI i) z τ = some (r, υ) ∧ Inv υ := by
          intro v τ a1 a2 a3 a4
          rw [a1, pb2]
          refine ⟨0, τ, _, by rw [a2], a3, ?_⟩
          rw [a2, nU_n (j := 77) _ _ (by omega)]
          exact I.put hd (by omega) a4
        have hM : ∀ v τ, τ = nU σ (29 + 2 * d + 1) (upd (σ (29 + 2 * d + 1)) i v) → fX6_put (nI d) (nI i) z τ = if σ 75 d = 0 then some (0, nU τ 77 (upd (τ 77) (100 * d + i) z.toInt8.toInt32)) else if σ 75 d = 1 then some (0, nU τ 77 (upd (τ 77) (100 * d + i) z.toInt16.toInt32)) else some (0, nU τ 77 (upd (τ 77) (100 * d + i) z)) := by
          intro v τ a2
          have f : ∀ j, 72 ≤ j → τ j = σ j := fun j hj => by rw [a2, nU_n _ _ (by omega)]
          have hq : fX6_isIn (nI i) 0 (nI N - (1 : Int32)) τ = some (bi true) := by rw [M_isInG (nI i) (show N ≤ 100 by omega), q2]
          rw [fX6_put, row_frame (f 72 (by omega)) (f 75 (by omega)), e2, pb]
          simp (disch := omega) only [if_true, pnl, pb, pb2, pinc, pnin, pc0, if_pos, if_true, f 76 (by omega), f 75 (by omega), eN, hq, bit0, if_false, p100i]
        have hF : fX1_fill (29 + 2 * d) (nI i) z σ = if σ 75 d = 0 then some ((), nU σ (29 + 2 * d + 1) (upd (σ (29 + 2 * d + 1)) i z.toInt8.toInt32)) else if σ 75 d = 1 then some ((), nU σ (29 + 2 * d + 1) (upd (σ (29 + 2 * d + 1)) i z.toInt16.toInt32)) else some ((), nU σ (29 + 2 * d + 1) (upd (σ (29 + 2 * d + 1)) i z)) := by
          simp (disch := omega) only [fX1_fill, pnl, pb, pb2, pinc, pnin, pc0, if_pos, if_true, e3]
        have hM' := fun v => hM v _ rfl
        by_cases c0 : σ 75 d = 0
        · simp only [c0, if_true] at hF hM'
          exact fin _ _ hF rfl (hM' _) (fun _ => byte_rng z)
        · by_cases c1 : σ 75 d = 1
          · simp only [c1, if_true] at hF hM'
            simp only [show ¬ (1 : Int32) = 0 by decide, if_false] at hF hM'
            exact fin _ _ hF rfl (hM' _) (fun q => absurd q c0)
          · simp only [c0, c1, if_false] at hF hM'
            exact fin _ _ hF rfl (hM' _) (fun q => absurd q c0)
    · rw [e1, pb]
      simp only [hv, if_false]
      refine ⟨v, σ, σ, rfl, ?_, I⟩
      rw [fX6_put, e2, pb]
      simp only [hv, if_false]
