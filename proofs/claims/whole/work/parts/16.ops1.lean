/-! PURE 7: calls that only look -/
theorem S_good {σ : nS} (I : Inv σ) (x y : Int32) : Sff σ (fX5_good x y) (fX6_good x y) := by
  obtain ⟨⟨G, P, L, w, hw, hc, -, -⟩, -⟩ := I
  have hG := hw.1
  simp only [Sff, fX5_good, fX6_good, C_isGoods x hc.1 hG, M_isGood x hw.2.2.2.1 hG, pb, M_isIn3]
  cases h : decide (nin x G) with
  | false => simp only [bif0, if_true]; exact ⟨_, rfl, rfl⟩
  | true =>
    obtain ⟨g, hg, rfl⟩ := gtn h (by omega)
    obtain ⟨b1, b2, b3⟩ := hc.2.2.2.2.2.1 g hg
    obtain ⟨a, ha, ea⟩ := pof (hw.2.2.2.2.2.2.1 g hg).1 (by omega)
    have b8 := hc.2.2.2.2.2.2.2.2 a ha
    simp only [bit0, if_false]
    cases hy : decide (nin y 4) with
    | true =>
      simp only [bit0, if_false]
      rcases gt4 hy with rfl | rfl | rfl | rfl
      · exact ⟨σ 64 (4 + 3 * g), by simp (disch := omega) [pnl, pb, pb2, p43, p344, p28, p66, pa0, pinc, pa2, pa3, pk0, pk1, pk2, pk3, tc0, tc1, tc2, tc3, pnin, pc0, if_pos, if_true, fX6_ofG, fX6_ofL, b1], by simp (disch := omega) [pnl, pb, pb2, p43, p344, p28, p66, pa0, pinc, pa2, pa3, pk0, pk1, pk2, pk3, tc0, tc1, tc2, tc3, pnin, pc0, if_pos, if_true, fX6_ofG, fX6_ofL]⟩
      · exact ⟨σ 64 (4 + 3 * g + 1), by simp (disch := omega) [pnl, pb, pb2, p43, p344, p28, p66, pa0, pinc, pa2, pa3, pk0, pk1, pk2, pk3, tc0, tc1, tc2, tc3, pnin, pc0, if_pos, if_true, fX6_ofG, fX6_ofL, b2], by simp (disch := omega) [pnl, pb, pb2, p43, p344, p28, p66, pa0, pinc, pa2, pa3, pk0, pk1, pk2, pk3, tc0, tc1, tc2, tc3, pnin, pc0, if_pos, if_true, fX6_ofG, fX6_ofL]⟩
      · exact ⟨σ 64 (4 + 3 * g + 2), by simp (disch := omega) [pnl, pb, pb2, p43, p344, p28, p66, pa0, pinc, pa2, pa3, pk0, pk1, pk2, pk3, tc0, tc1, tc2, tc3, pnin, pc0, if_pos, if_true, fX6_ofG, fX6_ofL, b3], by simp (disch := omega) [pnl, pb, pb2, p43, p344, p28, p66, pa0, pinc, pa2, pa3, pk0, pk1, pk2, pk3, tc0, tc1, tc2, tc3, pnin, pc0, if_pos, if_true, fX6_ofG, fX6_ofL]⟩
      · exact ⟨σ 64 (66 + a), by simp (disch := omega) [pnl, pb, pb2, p43, p344, p28, p66, pa0, pinc, pa2, pa3, pk0, pk1, pk2, pk3, tc0, tc1, tc2, tc3, pnin, pc0, if_pos, if_true, fX6_ofG, fX6_ofL, b1, ea, b8], by simp (disch := omega) [pnl, pb, pb2, p43, p344, p28, p66, pa0, pinc, pa2, pa3, pk0, pk1, pk2, pk3, tc0, tc1, tc2, tc3, pnin, pc0, if_pos, if_true, fX6_ofG, fX6_ofL, ea]⟩
    | false =>
      obtain ⟨y0, y1, y2, y3⟩ := gf4 hy
      simp only [bif0, if_true, y0, y1, y2, y3, if_false]; exact ⟨_, rfl, rfl⟩
theorem S_person {σ : nS} (I : Inv σ) (x y : Int32) : Sff σ (fX5_person x y) (fX6_person x y) := by
  obtain ⟨⟨G, P, L, w, hw, hc, -, -⟩, -⟩ := I
  have hG := hw.1
  have hP := hw.2.1
  simp only [Sff, fX5_person, fX6_person, C_isPerson x hc.2.1 (show P ≤ 8 by omega), M_isPerson x hw.2.2.2.2.1 (show P ≤ 8 by omega), pb, M_isIn2]
  cases h : decide (nin x P) with
  | false => simp only [bif0, if_true]; exact ⟨_, rfl, rfl⟩
  | true =>
    obtain ⟨g, hg, rfl⟩ := gtn h (by omega)
    have b1 := hc.2.2.2.2.2.2.1 g hg
    simp only [bit0, if_false, C_goodsHad hc hw, C_wealth hc hw hg, M_ownedBy hw, M_richesOf hw hg]
    cases hy : decide (nin y 3) with
    | true =>
      simp only [bit0, if_false]
      rcases gt3 hy with rfl | rfl | rfl
      · exact ⟨σ 64 (28 + g), by simp (disch := omega) [pnl, pb, pb2, p43, p344, p28, p66, pa0, pinc, pa2, pa3, pk0, pk1, pk2, pk3, tc0, tc1, tc2, tc3, pnin, pc0, if_pos, if_true, fX6_ofG, fX6_ofL, b1], by simp (disch := omega) [pnl, pb, pb2, p43, p344, p28, p66, pa0, pinc, pa2, pa3, pk0, pk1, pk2, pk3, tc0, tc1, tc2, tc3, pnin, pc0, if_pos, if_true, fX6_ofG, fX6_ofL]⟩
      · exact ⟨_, by simp; rfl, by simp⟩
      · exact ⟨_, by simp; rfl, by simp⟩
    | false =>
      obtain ⟨y0, y1, y2⟩ := gf3 hy
      simp only [bif0, if_true, y0, y1, y2, if_false]; exact ⟨_, rfl, rfl⟩
/-- what the calls see of a town that has its row -/
theorem TN.get {σ : nS} {k m : Nat} (h : TN σ k m) : ∃ G P L w : Nat, WF (σ m) G P L ∧ CT σ k (σ m) G P L ∧ σ m 3 = nI w ∧ w < 1000 ∧ G ≤ 8 ∧ P ≤ 6 ∧ L ≤ 8 := by
  obtain ⟨G, P, L, w, h1, h2, h3, h4⟩ := h
  exact ⟨G, P, L, w, h1, h2, h3, h4, h1.1, h1.2.1, h1.2.2.1⟩
theorem S_loan {σ : nS} (I : Inv σ) (x y : Int32) : Sff σ (fX5_loan x y) (fX6_loan x y) := by
  obtain ⟨G, P, L, w, hw, hc, -, -, hG, hP, hL⟩ := I.1.get
  simp only [Sff, fX5_loan, fX6_loan, C_isLoan x hc.2.2.1 hL, M_isLoan x hw.2.2.2.2.2.1 hL, pb, M_isIn3]
  cases h : decide (nin x L) with
  | false => simp only [bif0, if_true]; exact ⟨_, rfl, rfl⟩
  | true =>
    obtain ⟨l, hl, rfl⟩ := gtn h (by omega)
    obtain ⟨b1, b2, b3⟩ := hc.2.2.2.2.2.2.2.1 l hl
    have h4 := (hw.2.2.2.2.2.2.2.2.1 l hl).2.2.2
    simp only [bit0, if_false, hc.2.2.2.1, phas5 σ hL (show l < 8 by omega), pb]
    cases hy : decide (nin y 4) with
    | true =>
      simp only [bit0, if_false]
      rcases gt4 hy with rfl | rfl | rfl | rfl
      · exact ⟨σ 64 (34 + 4 * l), by simp (disch := omega) [pnl, pb, pb2, p43, p344, p28, p66, pa0, pinc, pa2, pa3, pk0, pk1, pk2, pk3, tc0, tc1, tc2, tc3, pnin, pc0, if_pos, if_true, fX6_ofG, fX6_ofL, b1], by simp (disch := omega) [pnl, pb, pb2, p43, p344, p28, p66, pa0, pinc, pa2, pa3, pk0, pk1, pk2, pk3, tc0, tc1, tc2, tc3, pnin, pc0, if_pos, if_true, fX6_ofG, fX6_ofL]⟩
      · exact ⟨σ 64 (34 + 4 * l + 1), by simp (disch := omega) [pnl, pb, pb2, p43, p344, p28, p66, pa0, pinc, pa2, pa3, pk0, pk1, pk2, pk3, tc0, tc1, tc2, tc3, pnin, pc0, if_pos, if_true, fX6_ofG, fX6_ofL, b2], by simp (disch := omega) [pnl, pb, pb2, p43, p344, p28, p66, pa0, pinc, pa2, pa3, pk0, pk1, pk2, pk3, tc0, tc1, tc2, tc3, pnin, pc0, if_pos, if_true, fX6_ofG, fX6_ofL]⟩
      · exact ⟨σ 64 (34 + 4 * l + 2), by simp (disch := omega) [pnl, pb, pb2, p43, p344, p28, p66, pa0, pinc, pa2, pa3, pk0, pk1, pk2, pk3, tc0, tc1, tc2, tc3, pnin, pc0, if_pos, if_true, fX6_ofG, fX6_ofL, b3], by simp (disch := omega) [pnl, pb, pb2, p43, p344, p28, p66, pa0, pinc, pa2, pa3, pk0, pk1, pk2, pk3, tc0, tc1, tc2, tc3, pnin, pc0, if_pos, if_true, fX6_ofG, fX6_ofL]⟩
      · refine ⟨σ 64 (34 + 4 * l + 3), ?_, by simp (disch := omega) [pnl, pb, pb2, p43, p344, p28, p66, pa0, pinc, pa2, pa3, pk0, pk1, pk2, pk3, tc0, tc1, tc2, tc3, pnin, pc0, if_pos, if_true, fX6_ofG, fX6_ofL]⟩
        rcases h4 with e | e
        · simp [hl, opn, e, bi]
        · simp [hl, opn, e, bi]
    | false =>
      obtain ⟨y0, y1, y2, y3⟩ := gf4 hy
      simp only [bif0, if_true, y0, y1, y2, y3, if_false]; exact ⟨_, rfl, rfl⟩
theorem S_worth {σ : nS} (I : Inv σ) (x y : Int32) : Sff σ (fX5_worth x y) (fX6_worth x y) := by
  obtain ⟨G, P, L, w, hw, hc, -, -, hG, hP, hL⟩ := I.1.get
  simp only [Sff, fX5_worth, fX6_worth, C_isPerson x hc.2.1 (show P ≤ 8 by omega), M_isPerson x hw.2.2.2.2.1 (show P ≤ 8 by omega), C_isGoods y hc.1 hG, M_isGood y hw.2.2.2.1 hG, pb]
  cases h : decide (nin x P) with
  | false => simp only [bif0, if_true]; exact ⟨_, rfl, rfl⟩
  | true =>
    obtain ⟨q, hq, rfl⟩ := gtn h (by omega)
    simp only [bit0, if_false]
    cases h2 : decide (nin y G) with
    | false => simp only [bif0, if_true]; exact ⟨_, rfl, rfl⟩
    | true =>
      obtain ⟨g, hg, rfl⟩ := gtn h2 (by omega)
      simp only [bit0, if_false, C_worthTo hc hw hq hg, M_worthIn (show q < 6 by omega) (show g < 8 by omega), pb]
      exact ⟨_, rfl, rfl⟩
theorem S_would {σ : nS} (I : Inv σ) (x y z : Int32) : Sff σ (fX5_would x y z) (fX6_would x y z) := by
  obtain ⟨G, P, L, w, hw, hc, -, -, hG, hP, hL⟩ := I.1.get
  simp only [Sff, fX5_would, fX6_would, C_isPerson x hc.2.1 (show P ≤ 8 by omega), M_isPerson x hw.2.2.2.2.1 (show P ≤ 8 by omega), C_isGoods y hc.1 hG, M_isGood y hw.2.2.2.1 hG, C_isGoods z hc.1 hG, M_isGood z hw.2.2.2.1 hG, pb]
  cases h : decide (nin x P) with
  | false => simp only [bif0, if_true]; exact ⟨_, rfl, rfl⟩
  | true =>
    obtain ⟨q, hq, rfl⟩ := gtn h (by omega)
    simp only [bit0, if_false]
    cases h2 : decide (nin y G) with
    | false => simp only [bif0, if_true]; exact ⟨_, rfl, rfl⟩
    | true =>
      obtain ⟨a, ha, rfl⟩ := gtn h2 (by omega)
      simp only [bit0, if_false]
      cases h3 : decide (nin z G) with
      | false => simp only [bif0, if_true]; exact ⟨_, rfl, rfl⟩
      | true =>
        obtain ⟨b, hb, rfl⟩ := gtn h3 (by omega)
        have k1 := (hw.2.2.2.2.2.2.1 a ha).1
        have k2 := (hw.2.2.2.2.2.2.1 b hb).1
        simp only [bit0, if_false, fX4_isTaken, C_takenFor hc hw hq ha, phas5 σ hG (show b < 8 by omega), pb, bi_n, if_true, M_wouldIn (show q < 6 by omega) (show a < 8 by omega) (show b < 8 by omega) k1 k2, hb, decide_true, Bool.true_and]
        cases would (σ 64) q a b <;> exact ⟨_, rfl, rfl⟩
theorem S_takes {σ : nS} (I : Inv σ) (x y : Int32) : Sff σ (fX5_takes x y) (fX6_takes x y) := by
  obtain ⟨G, P, L, w, hw, hc, -, -, hG, hP, hL⟩ := I.1.get
  simp only [Sff, fX5_takes, fX6_takes, C_isPerson x hc.2.1 (show P ≤ 8 by omega), M_isPerson x hw.2.2.2.2.1 (show P ≤ 8 by omega), C_isGoods y hc.1 hG, M_isGood y hw.2.2.2.1 hG, pb]
  cases h : decide (nin x P) with
  | false => simp only [bif0, if_true]; exact ⟨_, rfl, rfl⟩
  | true =>
    obtain ⟨q, hq, rfl⟩ := gtn h (by omega)
    simp only [bit0, if_false]
    cases h2 : decide (nin y G) with
    | false => simp only [bif0, if_true]; exact ⟨_, rfl, rfl⟩
    | true =>
      obtain ⟨g, hg, rfl⟩ := gtn h2 (by omega)
      simp only [bit0, if_false, C_takenFor hc hw hq hg, M_takesOf hw hq hg, pb]
      exact ⟨_, rfl, rfl⟩
theorem S_canPay {σ : nS} (I : Inv σ) (x : Int32) : Sff σ (fX5_canPay x) (fX6_canPay x) := by
  obtain ⟨G, P, L, w, hw, hc, -, -, hG, hP, hL⟩ := I.1.get
  simp only [Sff, fX5_canPay, fX6_canPay, C_isLoan x hc.2.2.1 hL, M_isLoan x hw.2.2.2.2.2.1 hL, pb]
  cases h : decide (nin x L) with
  | false => simp only [bif0, if_true]; exact ⟨_, rfl, rfl⟩
  | true =>
    obtain ⟨l, hl, rfl⟩ := gtn h (by omega)
    simp only [bit0, if_false, C_payers hc hw hl, pb]
    refine ⟨_, rfl, ?_⟩
    exact ploop (fun n i => fX6_canPay_b14 n (nI l) (nI (bset (cpay (σ 64) l) i)) (nI i) σ) (some (nI (bset (cpay (σ 64) l) G))) G
      (fun n => by simp (disch := omega) only [fX6_canPay_b14, pnl, pb, pb2, p43, p344, p28, p66, pa0, pinc, pa2, pa3, pk0, pk1, pk2, pk3, tc0, tc1, tc2, tc3, pnin, pc0, if_pos, if_true, fX6_ofG, fX6_ofL, hw.2.2.2.1, ple])
      (fun n i hi => by
        simp (disch := omega) only [fX6_canPay_b14, pnl, pb, pb2, p43, p344, p28, p66, pa0, pinc, pa2, pa3, pk0, pk1, pk2, pk3, tc0, tc1, tc2, tc3, pnin, pc0, if_pos, if_true, fX6_ofG, fX6_ofL, hw.2.2.2.1, ple, if_neg, M_canPayIn hw hl hi, bi0, por0]
        cases e : cpay (σ 64) l i with
        | false => simp [pbit0 (f := cpay (σ 64) l) (n := i) (by simp [e])]
        | true => simp [pbit (f := cpay (σ 64) l) (n := i) (by omega) e])
      4096 0 (by omega) (by omega)
theorem S_bestPayment {σ : nS} (I : Inv σ) (x : Int32) : Sff σ (fX5_bestPayment x) (fX6_bestPayment x) := by
  obtain ⟨G, P, L, w, hw, hc, h3, h4, hG, hP, hL⟩ := I.1.get
  simp only [Sff, fX5_bestPayment, fX6_bestPayment, C_isLoan x hc.2.2.1 hL, M_isLoan x hw.2.2.2.2.2.1 hL, pb]
  cases h : decide (nin x L) with
  | false => simp only [bif0, if_true]; exact ⟨_, rfl, rfl⟩
  | true =>
    obtain ⟨l, hl, rfl⟩ := gtn h (by omega)
    obtain ⟨b1, b2, b3⟩ := hc.2.2.2.2.2.2.2.1 l hl
    obtain ⟨d, hd, ed⟩ := pof (hw.2.2.2.2.2.2.2.2.1 l hl).1 (by omega)
    simp (disch := omega) only [bit0, if_false, pnl, pb, pb2, p43, p344, p28, p66, pa0, pinc, pa2, pa3, pk0, pk1, pk2, pk3, tc0, tc1, tc2, tc3, pnin, pc0, if_pos, if_true, fX6_ofG, fX6_ofL, C_payers hc hw hl, b1, ed, C_most hc hw hd (show w < 2147483648 by omega) h3]
    refine ⟨_, rfl, ?_⟩
    have hb := fun i => bst_ok (cpay (σ 64) l) (fun g b => decide (wth (σ 64) d b < wth (σ 64) d g)) i
    generalize hf : (fun g b => decide (wth (σ 64) d b < wth (σ 64) d g)) = lt at hb
    have hlt : ∀ g b, lt g b = decide (wth (σ 64) d b < wth (σ 64) d g) := fun g b => by rw [← hf]
    exact ploop (fun n i => fX6_bestPayment_b28 n (nI l) (enc (bst (cpay (σ 64) l) lt i)) (nI d) (nI i) σ) (some (enc (bst (cpay (σ 64) l) lt G))) G
      (fun n => by simp (disch := omega) only [fX6_bestPayment_b28, pnl, pb, pb2, p43, p344, p28, p66, pa0, pinc, pa2, pa3, pk0, pk1, pk2, pk3, tc0, tc1, tc2, tc3, pnin, pc0, if_pos, if_true, fX6_ofG, fX6_ofL, hw.2.2.2.1, ple])
      (fun n i hi => by
        simp (disch := omega) only [fX6_bestPayment_b28, pnl, pb, pb2, p43, p344, p28, p66, pa0, pinc, pa2, pa3, pk0, pk1, pk2, pk3, tc0, tc1, tc2, tc3, pnin, pc0, if_pos, if_true, fX6_ofG, fX6_ofL, hw.2.2.2.1, ple, if_neg, M_canPayIn hw hl hi, bi0]
        simp only [enc_neg _ (n := i) (by omega) (fun b hb9 => (hb i b hb9).1)]
        cases e : bst (cpay (σ 64) l) lt i with
        | none =>
          rw [bst_s_none e]
          cases cpay (σ 64) l i <;> simp [enc]
        | some b =>
          rw [bst_s_some e]
          have hbi := (hb i b e).1
          simp (disch := omega) only [enc, M_worthIn (show d < 6 by omega) (show i < 8 by omega), M_worthIn (show d < 6 by omega) (show b < 8 by omega), pb, hlt]
          cases cpay (σ 64) l i with
          | false => simp [enc]
          | true =>
            by_cases c : wth (σ 64) d b < wth (σ 64) d i
            · simp [c, Int32.not_le.mpr c, enc]
            · simp [c, Int32.not_lt.mp c, enc])
      4096 0 (by omega) (by omega)
