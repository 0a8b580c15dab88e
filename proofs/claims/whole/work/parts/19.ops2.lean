/-! PURE 10: calls that change the town, or look ahead -/
theorem Inv.town {σ υ : nS} (I : Inv σ) (h : TN υ 1 64) (e : ∀ j, core j → ¬ (1 ≤ j ∧ j ≤ 9) → j ≠ 64 → υ j = σ j) (e0 : υ 0 3 = σ 0 3) (e1 : υ 63 4 = σ 63 4) : Inv υ := by
  obtain ⟨h1, h2, h3, h4⟩ := I
  refine ⟨h, by rw [e0, e1]; exact h2, ?_, fun d hd => (h4 d hd).frame (fun j hj => e j (by unfold core; omega) (by omega) (by omega))⟩
  rw [e0]
  rcases h3 with h3 | ⟨h3, h5⟩
  · exact Or.inl h3
  · exact Or.inr ⟨h3, h5.frame (fun j hj => e j (by unfold core; omega) (by omega) (by omega))⟩
theorem Inv.step {σ τ : nS} {r : Nat → Int32} {G P L w : Nat} (I : Inv σ) (f : Fr 1 σ τ) (c : CT τ 1 r G P L) (hw : WF r G P L) (h3 : r 3 = nI w) (hk : w < 1000) : Inv (nU τ 64 r) := by
  refine I.town ⟨G, P, L, w, ?_, ?_, ?_, hk⟩ (fun j hj h1 h2 => ?_) ?_ ?_
  · rw [nU_s]; exact hw
  · rw [nU_s]; exact c.frame (fun j h1 h2 => nU_n _ _ (by omega))
  · rw [nU_s]; exact h3
  · rw [nU_n _ _ h2]; exact f j (by omega)
  · rw [nU_n _ _ (by omega), f 0 (by omega)]
  · rw [nU_n _ _ (by omega), f 63 (by omega)]
theorem Fr.o {k : Nat} {σ τ : nS} (f : Fr k σ τ) {j : Nat} (h : j < k ∨ k + 8 < j) : τ j = σ j := f j h
theorem C_addPerson_no {σ : nS} {k : Nat} {x : Int32} (hx : decide (nin x 10) = false) : fX4_addPerson k x σ = some (-1, σ) := by
  have h := of_decide_eq_false hx
  unfold nin at h
  simp only [fX4_addPerson, lt_ti, ti0, ti10]
  by_cases c : x.toInt < 0
  · rw [if_pos c]
  · rw [if_neg c, if_neg (by omega)]
theorem C_addPerson_full {σ : nS} {k : Nat} {x : Int32} (e : σ k 5 = nI 6) (hx : nin x 10) : fX4_addPerson k x σ = some (-2, σ) := by
  unfold nin at hx
  simp only [fX4_addPerson, lt_ti, ti0, ti10]
  rw [if_neg (by omega), if_pos (by omega), e]
  rfl
theorem S_comes {σ : nS} (I : Inv σ) (x : Int32) : See σ (fX5_comes x) (fX6_comes x) := by
  obtain ⟨G, P, L, w, hw, hc, h3, h4, hG, hP, hL⟩ := I.1.get
  simp only [See, fX5_comes, fX6_comes, M_isIn9, pb]
  cases h : decide (nin x 10) with
  | false =>
    rw [C_addPerson_no h, pb2]
    simp only [bif0, if_true]
    exact ⟨_, _, _, rfl, rfl, I⟩
  | true =>
    have hx := of_decide_eq_true h
    simp only [bit0, if_false]
    by_cases h6 : P < 6
    · obtain ⟨τ, e1, e2, e3⟩ := C_addPerson hc hw h6 hx
      have e64 : τ 64 = σ 64 := e3.o (by omega)
      have hw' : WF (τ 64) G P L := by rw [e64]; exact hw
      rw [e1, pb2]
      refine ⟨_, _, nU τ 64 (addP (σ 64) P x), rfl, ?_, I.step e3 e2 (WF_addP hw h6 hx) ?_ h4⟩
      · rw [M_addsPerson hw' h6]
        simp only [pnl, pb, pb2, p43, p344, p28, p66, pa0, pinc, pa2, pa3, pk0, pk1, pk2, pk3, tc0, tc1, tc2, tc3, pnin, pc0, if_pos, if_true, fX6_ofG, fX6_ofL, nU_s, e64]
        rw [show addP (σ 64) P x 1 = nI (P + 1) by rw [addP, upd_s], pdec]
        rfl
      · rw [addP, upd_n _ _ (by omega), upd_n _ _ (by omega)]; exact h3
    · have : P = 6 := by omega
      subst this
      rw [C_addPerson_full hc.2.1 hx, pb2]
      refine ⟨_, _, σ, rfl, ?_, I⟩
      rw [M_addsPerson_full hw h6]
      rfl
theorem C_addLoan_g {σ : nS} {k G : Nat} {x y : Int32} (h : σ k 3 = nI G) (hG : G ≤ 8) (hx : decide (nin x G) = false) : fX4_addLoan k x y σ = some (-1, σ) := by
  rw [fX4_addLoan, C_isGoods x h hG, hx, pb]
  simp only [bif0, if_true]
theorem C_addLoan_p {σ : nS} {k G P : Nat} {x y : Int32} (h : σ k 3 = nI G) (hG : G ≤ 8) (hx : decide (nin x G) = true) (h2 : σ k 5 = nI P) (hP : P ≤ 6) (hy : decide (nin y P) = false) : fX4_addLoan k x y σ = some (-1, σ) := by
  rw [fX4_addLoan, C_isGoods x h hG, hx, pb, C_isPerson y h2 (show P ≤ 8 by omega), hy, pb]
  simp only [bit0, bif0, if_true, if_false]
theorem C_addLoan_o {σ : nS} {k G P g : Nat} {y : Int32} (h : σ k 3 = nI G) (hG : G ≤ 8) (hg : g < G) (h2 : σ k 5 = nI P) (hP : P ≤ 6) (hy : decide (nin y P) = true) (ho : σ (k + 3) g = y) : fX4_addLoan k (nI g) y σ = some (-3, σ) := by
  have hng : nin (nI g) G := pnin0 (by omega) hg
  rw [fX4_addLoan, C_isGoods (nI g) h hG, decide_eq_true hng, pb, C_isPerson y h2 (show P ≤ 8 by omega), hy, pb]
  simp (disch := omega) only [bit0, if_false, pnl, pb, pb2, pinc, pnin, pc0, if_pos, if_true, ho]
theorem C_addLoan_f {σ : nS} {k G P g : Nat} {y : Int32} (h : σ k 3 = nI G) (hG : G ≤ 8) (hg : g < G) (h2 : σ k 5 = nI P) (hP : P ≤ 6) (hy : decide (nin y P) = true) (ho : ¬ σ (k + 3) g = y) (h9 : σ k 9 = nI 8) : fX4_addLoan k (nI g) y σ = some (-2, σ) := by
  have hng : nin (nI g) G := pnin0 (by omega) hg
  rw [fX4_addLoan, C_isGoods (nI g) h hG, decide_eq_true hng, pb, C_isPerson y h2 (show P ≤ 8 by omega), hy, pb]
  simp (disch := omega) only [bit0, if_false, pnl, pb, pb2, pinc, pnin, pc0, if_pos, if_true, ho, h9, pl8, plt, if_neg]
theorem addL_3 {r : Nat → Int32} {L g : Nat} {y : Int32} (hg : g < 8) : addL r L g y 3 = r 3 := by
  unfold addL; simp (disch := omega) only [upd_n]
theorem S_lends {σ : nS} (I : Inv σ) (x y : Int32) : See σ (fX5_lends x y) (fX6_lends x y) := by
  obtain ⟨G, P, L, w, hw, hc, h3, h4, hG, hP, hL⟩ := I.1.get
  simp only [See, fX5_lends, fX6_lends]
  cases h : decide (nin x G) with
  | false =>
    rw [C_addLoan_g hc.1 hG h, pb2]
    refine ⟨_, _, σ, rfl, ?_, I⟩
    rw [M_isGood x hw.2.2.2.1 hG, h, pb]
    simp only [bif0, if_true]
  | true =>
    cases h2 : decide (nin y P) with
    | false =>
      rw [C_addLoan_p hc.1 hG h hc.2.1 hP h2, pb2]
      refine ⟨_, _, σ, rfl, ?_, I⟩
      rw [M_isGood x hw.2.2.2.1 hG, h, pb, M_isPerson y hw.2.2.2.2.1 (show P ≤ 8 by omega), h2, pb]
      simp only [bif0, bit0, if_true, if_false]
    | true =>
      have hgd := M_isGood x hw.2.2.2.1 hG
      rw [h] at hgd
      obtain ⟨g, hg, rfl⟩ := gtn h (by omega)
      have b3 := (hc.2.2.2.2.2.1 g hg).2.2
      by_cases ho : σ 64 (4 + 3 * g + 2) = y
      · rw [C_addLoan_o hc.1 hG hg hc.2.1 hP h2 (by rw [b3]; exact ho), pb2]
        refine ⟨_, _, σ, rfl, ?_, I⟩
        rw [hgd, pb, M_isPerson y hw.2.2.2.2.1 (show P ≤ 8 by omega), h2, pb]
        simp (disch := omega) only [bit0, if_true, if_false, pnl, pb, pb2, p43, p344, p28, p66, pa0, pinc, pa2, pa3, pk0, pk1, pk2, pk3, tc0, tc1, tc2, tc3, pnin, pc0, if_pos, if_true, fX6_ofG, fX6_ofL, ho]
      · by_cases h8 : L < 8
        · have hy := of_decide_eq_true h2
          obtain ⟨τ, e1, e2, e3⟩ := C_addLoan hc hw h8 hg hy ho
          have e64 : τ 64 = σ 64 := e3.o (by omega)
          have hw' : WF (τ 64) G P L := by rw [e64]; exact hw
          rw [e1, pb2]
          refine ⟨_, _, nU τ 64 (addL (σ 64) L g y), rfl, ?_, I.step e3 e2 (WF_addL hw h8 hg hy) (by rw [addL_3 (by omega)]; exact h3) h4⟩
          have hgd : fX6_isGood (nI g) τ = some (bi true) := by rw [M_isGood (nI g) hw'.2.2.2.1 hG, h]
          rw [hgd, pb, M_isPerson y hw'.2.2.2.2.1 (show P ≤ 8 by omega), h2, pb]
          simp (disch := omega) only [bit0, if_true, if_false, pnl, pb, pb2, p43, p344, p28, p66, pa0, pinc, pa2, pa3, pk0, pk1, pk2, pk3, tc0, tc1, tc2, tc3, pnin, pc0, if_pos, if_true, fX6_ofG, fX6_ofL, e64, ho, M_addsLoan hw' h8 hg, nU_s, hw.2.2.2.2.2.1, pl8, peq, if_neg]
          rw [show addL (σ 64) L g y 2 = nI (L + 1) by rw [addL, upd_s], pdec]
        · have : L = 8 := by omega
          subst this
          rw [C_addLoan_f hc.1 hG hg hc.2.1 hP h2 (by rw [b3]; exact ho) hc.2.2.1, pb2]
          refine ⟨_, _, σ, rfl, ?_, I⟩
          rw [hgd, pb, M_isPerson y hw.2.2.2.2.1 (show P ≤ 8 by omega), h2, pb]
          simp (disch := omega) only [bit0, if_true, if_false, pnl, pb, pb2, p43, p344, p28, p66, pa0, pinc, pa2, pa3, pk0, pk1, pk2, pk3, tc0, tc1, tc2, tc3, pnin, pc0, if_pos, if_true, fX6_ofG, fX6_ofL, ho, hw.2.2.2.2.2.1, pl8]
theorem S_sames {σ : nS} (I : Inv σ) (x y : Int32) : See σ (fX5_sames x y) (fX6_sames x y) := by
  obtain ⟨G, P, L, w, hw, hc, h3, h4, hG, hP, hL⟩ := I.1.get
  simp only [See, fX5_sames, fX6_sames, M_isIn7, pb]
  cases h : decide (nin x 8) with
  | false =>
    refine ⟨-1, σ, σ, ?_, by simp only [bif0, if_true], I⟩
    rw [fX4_liken, C_isKind, h, pb]
    simp only [bif0, if_true, pb2]
  | true =>
    cases h2 : decide (nin y 8) with
    | false =>
      refine ⟨-1, σ, σ, ?_, by simp only [bif0, bit0, if_true, if_false], I⟩
      rw [fX4_liken, C_isKind, h, pb, C_isKind, h2, pb]
      simp only [bif0, bit0, if_true, if_false, pb2]
    | true =>
      obtain ⟨a, ha, rfl⟩ := gtn h (by omega)
      obtain ⟨b, hb, rfl⟩ := gtn h2 (by omega)
      obtain ⟨τ, e1, e2, e3⟩ := C_liken hc hw ha hb
      have e64 : τ 64 = σ 64 := e3.o (by omega)
      rw [e1, pb2]
      refine ⟨_, _, nU τ 64 (lik (σ 64) a b), rfl, ?_, I.step e3 e2 (WF_lik hw ha hb) (by rw [lik, upd_n _ _ (by omega)]; exact h3) h4⟩
      simp (disch := omega) only [bit0, if_false, pnl, pb, pb2, p43, p344, p28, p66, pa0, pinc, pa2, pa3, pk0, pk1, pk2, pk3, tc0, tc1, tc2, tc3, pnin, pc0, if_pos, if_true, fX6_ofG, fX6_ofL, e64]
      rfl
theorem pay_3 {r : Nat → Int32} {l g : Nat} (hg : g < 8) : pay r l g 3 = r 3 := pay_n (by omega) (by omega)
theorem S_pays {σ : nS} (I : Inv σ) (x y : Int32) : See σ (fX5_pays x y) (fX6_pays x y) := by
  obtain ⟨G, P, L, w, hw, hc, h3, h4, hG, hP, hL⟩ := I.1.get
  simp only [See, fX5_pays, fX6_pays, C_isLoan x hc.2.2.1 hL, C_isGoods y hc.1 hG, pb]
  cases h : decide (nin x L) with
  | false =>
    simp only [bif0, if_true]
    exact ⟨_, _, σ, rfl, by rw [M_isLoan x hw.2.2.2.2.2.1 hL, h, pb]; simp only [bif0, if_true], I⟩
  | true =>
    cases h2 : decide (nin y G) with
    | false =>
      simp only [bif0, bit0, if_true, if_false]
      exact ⟨_, _, σ, rfl, by rw [M_isLoan x hw.2.2.2.2.2.1 hL, h, pb, M_isGood y hw.2.2.2.1 hG, h2, pb]; simp only [bif0, bit0, if_true, if_false], I⟩
    | true =>
      simp only [bit0, if_false]
      have q1 := h
      have q2 := h2
      obtain ⟨l, hl, rfl⟩ := gtn h (by omega)
      obtain ⟨g, hg, rfl⟩ := gtn h2 (by omega)
      rw [C_payers hc hw hl, pb, phas5 σ hG (show g < 8 by omega), pb]
      simp only [hg, decide_true, Bool.true_and]
      cases e : cpay (σ 64) l g with
      | false =>
        simp only [bif0, if_true]
        refine ⟨_, _, σ, rfl, ?_, I⟩
        rw [M_isLoan (nI l) hw.2.2.2.2.2.1 hL, q1, pb, M_isGood (nI g) hw.2.2.2.1 hG, q2, pb, M_canPayIn hw hl hg, e, pb]
        simp only [bif0, bit0, if_true, if_false]
      | true =>
        simp only [bit0, if_false]
        obtain ⟨τ, e1, e2, e3⟩ := C_settle hc hw hl hg
        have e64 : τ 64 = σ 64 := e3 64 (by omega)
        have hw' : WF (τ 64) G P L := by rw [e64]; exact hw
        have hw2 := WF_pay hw hl hg
        have hw3 : WF ((nU τ 64 (pay (σ 64) l g)) 64) G P L := by rw [nU_s]; exact hw2
        have h9 := M_cntOpen (τ := nU τ 64 (pay (σ 64) l g)) hw3
        rw [nU_s] at h9
        rw [e1, pb2, e2.2.2.2.1, pcntJ, pb]
        refine ⟨_, _, nU τ 64 (pay (σ 64) l g), rfl, ?_, I.step e3 e2 hw2 (by rw [pay_3 (by omega)]; exact h3) h4⟩
        rw [M_isLoan (nI l) hw'.2.2.2.2.2.1 hL, q1, pb, M_isGood (nI g) hw'.2.2.2.1 hG, q2, pb, M_canPayIn hw' hl hg, e64, e, pb]
        simp only [bit0, if_false]
        rw [M_paysIn (show l < 8 by omega) (show g < 8 by omega), pb2, e64, M_openIn hw3, pb, nU_s, h9, pb]
