/-! PURE 13: shelves -/
theorem SH.point {σ υ : nS} {d : Nat} (h : SH σ d) (e1 : ∀ j, υ (29 + 2 * d) j = σ (29 + 2 * d) j) (e2 : ∀ i, i < 100 → υ (29 + 2 * d + 1) i = σ (29 + 2 * d + 1) i) (e3 : ∀ j, 72 ≤ j → j ≤ 76 → υ j d = σ j d) (e4 : ∀ i, i < 100 → υ 77 (100 * d + i) = σ 77 (100 * d + i)) : SH υ d := by
  obtain ⟨h1, h2, h3, h4, h5, h6, h7, h8, h9⟩ := h
  unfold SH
  rw [e1 0, e1 1, e1 2, e1 3, e1 4, e3 72 (by omega) (by omega), e3 73 (by omega) (by omega), e3 74 (by omega) (by omega), e3 75 (by omega) (by omega), e3 76 (by omega) (by omega)]
  refine ⟨h1, h2, h3, h4, h5, h6, h7, fun i hi => ?_, fun q i hi => ?_⟩
  · rw [e2 i hi, e4 i hi]; exact h8 i hi
  · rw [e4 i hi]; exact h9 q i hi
theorem Inv.shelf {σ υ : nS} (I : Inv σ) (f : ∀ j, j < 29 ∨ (44 < j ∧ j < 72) → υ j = σ j) (h : ∀ d, d < 8 → SH υ d) : Inv υ := by
  obtain ⟨i1, i2, i3, i4⟩ := I
  refine ⟨i1.frame (fun j hj => f j (by omega)), by rw [f 0 (by omega), f 63 (by omega)]; exact i2, ?_, h⟩
  rw [f 0 (by omega)]
  rcases i3 with i3 | ⟨i3, i5⟩
  · exact Or.inl i3
  · exact Or.inr ⟨i3, i5.frame (fun j hj => f j (by omega))⟩
theorem neg11 : ¬ (-11 : Int32) = 0 := by decide
theorem neg12 : ¬ (-12 : Int32) = 0 := by decide
theorem neg1lt0 : (-1 : Int32) < 0 := by decide
theorem row_case {σ : nS} {d : Nat} (I : Inv σ) (hd : d < 8) : (σ 72 d = 2 ∧ fX1_refusal (29 + 2 * d) 2 σ = some 0 ∧ fX6_wrongRow (nI d) (-1) σ = some 0) ∨ ∃ v, ¬ v = 0 ∧ fX1_refusal (29 + 2 * d) 2 σ = some v ∧ fX6_wrongRow (nI d) (-1) σ = some v := by
  have h := I.2.2.2 d hd
  have hn : nin (nI d) 8 := pnin0 (by omega) hd
  have hs := M_isShelf (nI d) σ
  rw [decide_eq_true hn] at hs
  rw [fX1_refusal, fX6_wrongRow, hs, pb, h.1]
  simp (disch := omega) only [bit0, if_false, pnl, pb, pb2, p43, p344, p28, p66, pa0, pinc, pa2, pa3, pk0, pk1, pk2, pk3, tc0, tc1, tc2, tc3, pnin, pc0, if_pos, if_true, fX6_ofG, fX6_ofL]
  rcases h.2.1 with e | e | e
  · exact Or.inr ⟨-11, neg11, by simp [e], by simp [e]⟩
  · exact Or.inr ⟨-12, neg12, by simp [e], by simp [e]⟩
  · exact Or.inl ⟨e, by simp [e], by simp [e, neg1lt0]⟩
theorem row_no {σ : nS} {x : Int32} (h : decide (nin x 8) = false) (y : Int32) : fX6_wrongRow x y σ = some (-1) := by
  rw [fX6_wrongRow, M_isShelf, h, pb]
  simp only [bif0, if_true]
theorem thing_case {σ : nS} {d : Nat} (I : Inv σ) (hd : d < 8) : (σ 72 d = 1 ∧ fX1_refusal (29 + 2 * d) 1 σ = some 0 ∧ fX6_wrongKept (nI d) σ = some 0) ∨ ∃ v, ¬ v = 0 ∧ fX1_refusal (29 + 2 * d) 1 σ = some v ∧ fX6_wrongKept (nI d) σ = some v := by
  have h := I.2.2.2 d hd
  have hn : nin (nI d) 8 := pnin0 (by omega) hd
  have hs := M_isShelf (nI d) σ
  rw [decide_eq_true hn] at hs
  rw [fX1_refusal, fX6_wrongKept, hs, pb, h.1]
  simp (disch := omega) only [bit0, if_false, pnl, pb, pb2, p43, p344, p28, p66, pa0, pinc, pa2, pa3, pk0, pk1, pk2, pk3, tc0, tc1, tc2, tc3, pnin, pc0, if_pos, if_true, fX6_ofG, fX6_ofL]
  rcases h.2.1 with e | e | e
  · exact Or.inr ⟨-11, neg11, by simp [e], by simp [e]⟩
  · exact Or.inl ⟨e, by simp [e], by simp [e]⟩
  · exact Or.inr ⟨-12, neg12, by simp [e], by simp [e]⟩
theorem thing_no {σ : nS} {x : Int32} (h : decide (nin x 8) = false) : fX6_wrongKept x σ = some (-1) := by
  rw [fX6_wrongKept, M_isShelf, h, pb]
  simp only [bif0, if_true]
theorem kept_frame {σ τ : nS} {x : Int32} (e : τ 72 = σ 72) : fX6_wrongKept x τ = fX6_wrongKept x σ := by
  simp only [fX6_wrongKept, M_isShelf, pb, e]
theorem row_frame {σ τ : nS} {x y : Int32} (e : τ 72 = σ 72) (e2 : τ 75 = σ 75) : fX6_wrongRow x y τ = fX6_wrongRow x y σ := by
  simp only [fX6_wrongRow, M_isShelf, pb, e, e2]
theorem cost_eq (k f : Int32) (σ : nS) : fX6_costBy k f σ = fX5_costOf k f σ := by
  have e1 : ((2 : Int32) + 4) / 2 = 3 := by decide
  simp only [fX6_costBy, fX5_costOf, pnl, e1]
  rfl
theorem cost_some (k f : Int32) (σ : nS) : ∃ v, fX5_costOf k f σ = some v := by
  simp only [fX5_costOf, pnl]
  repeat' split
  all_goals exact ⟨_, rfl⟩
theorem S_cost {σ : nS} (I : Inv σ) (x : Int32) : Sff σ (fX5_cost x) (fX6_cost x) := by
  simp only [Sff, fX5_cost, fX6_cost, C_isShelf, pb]
  cases h : decide (nin x 8) with
  | false => rw [thing_no h, pb]; simp only [bif0, if_true]; exact ⟨-1, rfl, by simp⟩
  | true =>
    obtain ⟨d, hd, rfl⟩ := gtn h (by omega)
    have hs := I.2.2.2 d hd
    simp (disch := omega) only [bit0, if_false, pnl, pb, pb2, pinc, pnin, pc0, if_pos, if_true]
    rcases thing_case I hd with ⟨e, e1, e2⟩ | ⟨v, hv, e1, e2⟩
    · obtain ⟨a1, a2, -, -⟩ := hs.2.2.1 e
      obtain ⟨v, hv⟩ := cost_some (σ 73 d) (σ 74 d) σ
      rw [e1, e2, pb, pb]
      simp (disch := omega) only [if_true, a1, a2, cost_eq, hv, pnl, pb, pb2, pinc, pnin, pc0, if_pos, if_true]
      exact ⟨v, rfl, rfl⟩
    · rw [e1, e2, pb, pb]
      simp only [hv, if_false]
      exact ⟨v, rfl, rfl⟩
theorem S_brings {σ : nS} (I : Inv σ) (x y : Int32) : See σ (fX5_brings x y) (fX6_brings x y) := by
  obtain ⟨G, P, L, w, hw, hc, h3, h4, hG, hP, hL⟩ := I.1.get
  simp only [See, fX5_brings, fX6_brings, C_isShelf, C_isPerson y hc.2.1 (show P ≤ 8 by omega), pb]
  cases h2 : decide (nin y P) with
  | false =>
    refine ⟨-1, σ, σ, ?_, ?_, I⟩
    · cases decide (nin x 8) <;> simp only [bif0, bit0, if_true, if_false]
    · rw [M_isPerson y hw.2.2.2.2.1 (show P ≤ 8 by omega), h2, pb]; simp only [bif0, if_true]
  | true =>
    have hm : ∀ τ : nS, τ 64 = σ 64 → fX6_isPerson y τ = some (bi true) := fun τ e => by
      rw [M_isPerson y (by rw [e]; exact hw.2.2.2.2.1) (show P ≤ 8 by omega), h2]
    cases h : decide (nin x 8) with
    | false =>
      refine ⟨-1, σ, σ, by simp only [bif0, if_true], ?_, I⟩
      rw [hm σ rfl, pb, thing_no h, pb]; simp only [bit0, if_false]; simp
    | true =>
      obtain ⟨d, hd, rfl⟩ := gtn h (by omega)
      have hs := I.2.2.2 d hd
      simp (disch := omega) only [bit0, if_false, pnl, pb, pb2, pinc, pnin, pc0, if_pos, if_true]
      rcases thing_case I hd with ⟨e, e1, e2⟩ | ⟨v, hv, e1, e2⟩
      · obtain ⟨a1, a2, a3, a4⟩ := hs.2.2.1 e
        rw [e1, pb]
        simp (disch := omega) only [if_true, a1, a2]
        by_cases h8 : G < 8
        · obtain ⟨τ, b1, b2, b3⟩ := C_addGoods hc hw h8 a3 a4 (of_decide_eq_true h2)
          have e64 : τ 64 = σ 64 := b3 64 (by omega)
          have hw' : WF (τ 64) G P L := by rw [e64]; exact hw
          rw [b1, pb2]
          refine ⟨nI G, τ, nU τ 64 (addG (σ 64) G (σ 73 d) (σ 74 d) y), rfl, ?_, I.step b3 b2 (WF_addG hw h8 a3 a4 (of_decide_eq_true h2)) ?_ h4⟩
          · rw [hm τ e64, pb, kept_frame (σ := σ) (b3 72 (by omega)), e2, pb]
            simp (disch := omega) only [bit0, if_false, pnl, pb, pb2, p43, p344, p28, p66, pa0, pinc, pa2, pa3, pk0, pk1, pk2, pk3, tc0, tc1, tc2, tc3, pnin, pc0, if_pos, if_true, fX6_ofG, fX6_ofL, e64, hw.2.2.2.1, pl8, peq, if_neg, M_addsGood hw' h8, b3 73 (by omega), b3 74 (by omega), nU_s]
            rw [show addG (σ 64) G (σ 73 d) (σ 74 d) y 0 = nI (G + 1) by rw [addG, upd_s], pdec]
          · unfold addG; simp (disch := omega) only [upd_n]; exact h3
        · have : G = 8 := by omega
          subst this
          have k1 : fX4_addGoods 1 (σ 73 d) (σ 74 d) y σ = some (-2, σ) := by
            rw [fX4_addGoods, C_isKind, decide_eq_true a3, pb, C_isFigure, decide_eq_true a4, pb, C_isPerson y hc.2.1 (show P ≤ 8 by omega), h2, pb]
            simp (disch := omega) only [bit0, if_false, hc.1, pl8, plt, if_neg]
          rw [k1, pb2]
          refine ⟨-2, σ, σ, rfl, ?_, I⟩
          rw [hm σ rfl, pb, e2, pb]
          simp (disch := omega) only [bit0, if_false, pnl, pb, pb2, p43, p344, p28, p66, pa0, pinc, pa2, pa3, pk0, pk1, pk2, pk3, tc0, tc1, tc2, tc3, pnin, pc0, if_pos, if_true, fX6_ofG, fX6_ofL, hw.2.2.2.1, pl8]
      · rw [e1, pb]
        simp only [hv, if_false]
        refine ⟨v, σ, σ, rfl, ?_, I⟩
        rw [hm σ rfl, pb, e2, pb]
        simp only [bit0, hv, if_false]
def kpU (τ : nS) (d : Nat) (y k f : Int32) : nS := nU (nU (nU τ 72 (upd (τ 72) d y)) 73 (upd (τ 73) d k)) 74 (upd (τ 74) d f)
theorem M_keepb {τ : nS} {d : Nat} (y k f : Int32) (hd : d < 8) : fX6_keep_b44 (nI d) y k f τ = some (0, kpU τ d y k f) := by
  simp (disch := omega) only [fX6_keep_b44, pnl, pb, pb2, p43, p344, p28, p66, pa0, pinc, pa2, pa3, pk0, pk1, pk2, pk3, tc0, tc1, tc2, tc3, pnin, pc0, if_pos, if_true, fX6_ofG, fX6_ofL, nU_n]
  rfl
/-- one shelf holds a thing or nothing -/
theorem Inv.kept {σ : nS} {d : Nat} {y k f : Int32} {g : Nat → Int32} (I : Inv σ) (hd : d < 8) (hy : y = 0 ∨ y = 1) (g0 : g 0 = y) (g1 : y = 1 → g 1 = k ∧ g 2 = f ∧ nin k 8 ∧ nin f 10) (g3 : g 3 = σ (29 + 2 * d) 3) (g4 : g 4 = σ (29 + 2 * d) 4) : Inv (kpU (nU σ (29 + 2 * d) g) d y k f) := by
  refine I.shelf (fun j hj => ?_) (fun e he => ?_)
  · unfold kpU; simp (disch := omega) only [nU_n]
  · have h := I.2.2.2 e he
    by_cases c : e = d
    · subst c
      obtain ⟨h1, h2, h3, h4, h5, h6, h7, h8, h9⟩ := h
      unfold SH kpU
      simp (disch := omega) only [nU_n, nU_s, upd_s]
      refine ⟨g0, by rcases hy with q | q <;> simp [q], g1, by rw [g3]; exact h4, h5, by rw [g4]; exact h6, h7, h8, h9⟩
    · refine h.point (fun j => ?_) (fun i hi => ?_) (fun j j1 j2 => ?_) (fun i hi => ?_)
      · unfold kpU; simp (disch := omega) only [nU_n]
      · unfold kpU; simp (disch := omega) only [nU_n]
      · unfold kpU
        by_cases q1 : j = 74
        · subst q1; simp (disch := omega) only [nU_s, upd_n, nU_n]
        by_cases q2 : j = 73
        · subst q2; simp (disch := omega) only [nU_n, nU_s, upd_n]
        by_cases q3 : j = 72
        · subst q3; simp (disch := omega) only [nU_n, nU_s, upd_n]
        simp (disch := omega) only [nU_n]
      · unfold kpU; simp (disch := omega) only [nU_n]
theorem S_keep {σ : nS} (I : Inv σ) (x y k f : Int32) : See σ (fX5_keep x y k f) (fX6_keep x y k f) := by
  simp only [See, fX5_keep, fX6_keep, C_isShelf, M_isShelf, M_isIn1, M_isIn7, M_isIn9, C_isKind, C_isFigure, pb]
  cases h : decide (nin x 8) with
  | false => simp only [bif0, if_true]; exact ⟨-1, σ, σ, rfl, rfl, I⟩
  | true =>
    obtain ⟨d, hd, rfl⟩ := gtn h (by omega)
    have hs := I.2.2.2 d hd
    simp only [bit0, if_false]
    cases h2 : decide (nin y 2) with
    | false =>
      simp only [bif0, if_true]
      rcases gfn (n := 1) h2 (by omega) with e | ⟨e, e'⟩
      · simp only [e, if_true]; exact ⟨-1, σ, σ, rfl, rfl, I⟩
      · rw [← pl1] at e'
        simp only [e, e', if_false]; exact ⟨-1, σ, σ, rfl, rfl, I⟩
    | true =>
      simp only [bit0, if_false]
      rcases gt2 h2 with rfl | rfl
      · rw [if_neg (by decide), if_pos (by decide), if_pos rfl, if_pos (pnin0 (by omega) hd), pc0 (by omega), pnl]
        simp only [M_keepb _ _ _ hd, show ¬ (0 : Int32) = 1 by decide, if_false]
        exact ⟨0, _, _, rfl, rfl, I.kept hd (Or.inl rfl) (by rw [upd_s]) (fun q => absurd q (by decide)) (by rw [upd_n _ _ (by omega)]) (by rw [upd_n _ _ (by omega)])⟩
      · rw [if_neg (by decide), if_pos (by decide), if_neg (by decide)]
        simp only [if_true]
        cases h3 : decide (nin k 8) with
        | false => simp only [bif0, if_true]; exact ⟨-1, σ, σ, rfl, rfl, I⟩
        | true =>
          cases h4 : decide (nin f 10) with
          | false => simp only [bif0, bit0, if_true, if_false]; exact ⟨-1, σ, σ, rfl, rfl, I⟩
          | true =>
            simp (disch := omega) only [bit0, if_false, pnl, pb, pb2, pinc, pnin, pc0, if_pos, if_true, M_keepb _ _ _ hd, fX1_holdThing, nU_s, nUU]
            exact ⟨0, _, _, rfl, rfl, I.kept hd (Or.inr rfl) (by simp (disch := omega) only [upd_n, upd_s]) (fun _ => ⟨by simp (disch := omega) only [upd_n, upd_s], by simp (disch := omega) only [upd_n, upd_s], of_decide_eq_true h3, of_decide_eq_true h4⟩) (by simp (disch := omega) only [upd_n]) (by simp (disch := omega) only [upd_n])⟩
