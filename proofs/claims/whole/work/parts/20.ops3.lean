/-! PURE 11: weeks, the image, in mind -/
theorem pl60 : (60 : Int32) = nI 60 := by decide
theorem pl999 : (999 : Int32) = nI 999 := by decide
theorem ti999 : (999 : Int32).toInt = 999 := by decide
theorem S_weeks {σ : nS} (I : Inv σ) (x : Int32) : See σ (fX5_weeks x) (fX6_weeks x) := by
  obtain ⟨G, P, L, w, hw, hc, h3, h4, hG, hP, hL⟩ := I.1.get
  simp only [See, fX5_weeks, fX6_weeks, M_isIn, ti1, ti60, pb, fX4_passWeeks]
  cases h : decide (1 ≤ x.toInt ∧ x.toInt ≤ 60) with
  | false =>
    have h := of_decide_eq_false h
    simp only [bif0, if_true]
    refine ⟨-1, σ, σ, ?_, rfl, I⟩
    simp only [lt_ti, le_ti, ti1, ti60]
    by_cases c : x.toInt < 1
    · rw [if_pos c, pb2]
    · rw [if_neg c, if_neg (by omega), pb2]
  | true =>
    have h := of_decide_eq_true h
    obtain ⟨m, hm, rfl⟩ := pof (x := x) (n := 61) ⟨by omega, by omega⟩ (by omega)
    rw [pti (by omega)] at h
    simp (disch := omega) only [bit0, if_false, pl1, pl60, plt, ple, if_neg, if_pos, hc.2.2.2.2.1, h3, padd, pl999, tc3, pk3, if_true]
    by_cases c : w + m ≤ 999
    · rw [if_pos c]
      obtain ⟨τ, e1, e2, e3⟩ := C_passWeeks hc hw h4 (show m < 1000 by omega) h3
      have e64 : τ 64 = σ 64 := e3 64 (by omega)
      have hw' : WF (τ 64) G P L := by rw [e64]; exact hw
      have hw2 := WF_wksR hw m
      have hw3 : WF ((nU τ 64 (wksR (σ 64) G L m)) 64) G P L := by rw [nU_s]; exact hw2
      have h9 := M_cntOpen (τ := nU τ 64 (wksR (σ 64) G L m)) hw3
      rw [nU_s] at h9
      rw [pl0, e1, pb2]
      refine ⟨_, _, nU τ 64 (wksR (σ 64) G L m), rfl, ?_, I.step e3 e2 hw2 (wksR_3 hG h3 m) (by omega)⟩
      simp (disch := omega) only [e64, h3, padd, ple, if_pos c]
      rw [M_weeksOn hw' (show m < 1000 by omega), pb2, e64, M_openIn hw3, pb, nU_s, h9, pb]
    · rw [if_neg c, pb2]
      refine ⟨-3, σ, σ, rfl, ?_, I⟩
      simp (disch := omega) only [h3, padd, ple, if_neg c]
theorem S_image {σ : nS} (I : Inv σ) : See σ fX5_image fX6_image := by
  obtain ⟨G, P, L, w, hw, hc, h3, h4, hG, hP, hL⟩ := I.1.get
  obtain ⟨τ, e1, e2, e3⟩ := C_become (k0 := 19) hc hw (by omega)
  simp only [See, fX5_image, fX6_image, e1, pb2, pnl]
  generalize hτ1 : nU τ 0 (upd (τ 0) 3 1) = τ1
  have f1 : ∀ j, j ≠ 0 → (j < 19 ∨ 27 < j) → τ1 j = σ j := fun j h0 h1 => by rw [← hτ1, nU_n _ _ h0]; exact e3 j (by omega)
  have e2' : CT τ1 19 (σ 64) G P L := e2.frame (fun j h1 h2 => by rw [← hτ1, nU_n _ _ (by omega)])
  have e64 : τ1 64 = σ 64 := f1 64 (by omega) (by omega)
  refine ⟨_, _, nU (nU τ1 66 (cpR (τ1 64) (τ1 66))) 63 (upd (τ1 63) 4 1), rfl, ?_, ?_⟩
  · rw [M_copies (by omega), pb2]
    simp (disch := omega) only [pnl, pb, pb2, p43, p344, p28, p66, pa0, pinc, pa2, pa3, pk0, pk1, pk2, pk3, tc0, tc1, tc2, tc3, pnin, pc0, if_pos, if_true, fX6_ofG, fX6_ofL, nU_n, e64]
    rw [show τ1 1 12 = σ 64 3 by rw [← hτ1, nU_n _ _ (by omega), e3 1 (by omega)]; exact hc.2.2.2.2.1]
  generalize hr : cpR (τ1 64) (τ1 66) = r
  have er : ∀ j, j < 74 → r j = σ 64 j := fun j hj => by rw [← hr, cpR_e _ _ _ hj, e64]
  have hτ0 : τ1 0 3 = 1 := by rw [← hτ1, nU_s, upd_s]
  obtain ⟨i1, i2, i3, i4⟩ := I
  refine ⟨?_, ?_, Or.inr ⟨?_, ?_⟩, fun d hd => (i4 d hd).frame (fun j hj => ?_)⟩
  · exact i1.frame (fun j hj => by
      rw [nU_n _ _ (by omega), nU_n _ _ (by omega)]; exact f1 j (by omega) (by omega))
  · simp (disch := omega) only [nU_n, nU_s, upd_s, hτ0]
  · simp (disch := omega) only [nU_n]; exact hτ0
  · refine ⟨G, P, L, w, ?_, ?_, ?_, h4⟩
    · simp (disch := omega) only [nU_n, nU_s]; exact hw.congr er
    · simp (disch := omega) only [nU_n, nU_s]
      exact (e2'.congr hG hP hL er).frame (fun j h1 h2 => by simp (disch := omega) only [nU_n])
    · simp (disch := omega) only [nU_n, nU_s]; rw [er 3 (by omega)]; exact h3
  · simp (disch := omega) only [nU_n]; exact f1 j (by omega) (by omega)
theorem S_restore {σ : nS} (I : Inv σ) : See σ fX5_restore fX6_restore := by
  obtain ⟨i1, i2, i3, i4⟩ := I
  simp only [See, fX5_restore, fX6_restore]
  rcases i3 with i3 | ⟨i3, i5⟩
  · rw [if_pos i3]
    exact ⟨_, _, σ, rfl, by rw [if_pos (by rw [← i2]; exact i3)], i1, i2, Or.inl i3, i4⟩
  · rw [if_neg (by rw [i3]; decide)]
    obtain ⟨G, P, L, w, hw, hc, h3, h4, hG, hP, hL⟩ := i5.get
    obtain ⟨τ, e1, e2, e3⟩ := C_become (k0 := 1) hc hw (by omega)
    simp only [e1, pb2]
    generalize hr : cpR (τ 66) (τ 64) = r
    have er : ∀ j, j < 74 → r j = σ 66 j := fun j hj => by rw [← hr, cpR_e _ _ _ hj, e3 66 (by omega)]
    have ev : τ 1 12 = r 3 := by rw [er 3 (by omega)]; exact e2.2.2.2.2.1
    refine ⟨_, _, nU τ 64 r, rfl, ?_, ?_⟩
    · rw [if_neg (by rw [e3 63 (by omega), ← i2, i3]; decide), M_copies (by omega), pb2, hr]
      simp only [pnl, pb, pb2, p43, p344, p28, p66, pa0, pinc, pa2, pa3, pk0, pk1, pk2, pk3, tc0, tc1, tc2, tc3, pnin, pc0, if_pos, if_true, fX6_ofG, fX6_ofL, nU_s, ev]
    exact Inv.step ⟨i1, i2, Or.inr ⟨i3, i5⟩, i4⟩ e3 (e2.congr hG hP hL er) (hw.congr er) (by rw [er 3 (by omega)]; exact h3) h4
/-- in mind: both sides let the weeks go by; what they hold between the calls stays -/
theorem mind {σ : nS} (I : Inv σ) : ∃ τ r G P L w, fX4_become 10 1 σ = some ((), τ) ∧ Fr 10 σ τ ∧ CT τ 10 r G P L ∧ WF r G P L ∧ r 3 = nI w ∧ w < 1000 ∧ (∀ υ : nS, υ 64 = σ 64 → υ 65 = σ 65 → fX6_copies 64 65 υ = some ((), nU υ 65 r)) ∧ (∀ j, j < 74 → r j = σ 64 j) := by
  obtain ⟨G, P, L, w, hw, hc, h3, h4, hG, hP, hL⟩ := I.1.get
  obtain ⟨τ, e1, e2, e3⟩ := C_become (k0 := 10) hc hw (by omega)
  have er : ∀ j, j < 74 → cpR (σ 64) (σ 65) j = σ 64 j := fun j hj => cpR_e _ _ _ hj
  exact ⟨τ, cpR (σ 64) (σ 65), G, P, L, w, e1, e3, e2.congr hG hP hL er, hw.congr er, by rw [er 3 (by omega)]; exact h3, h4, fun υ a b => by rw [M_copies (by omega), a, b], er⟩
theorem Inv.mind {σ τ υ : nS} (I : Inv σ) (f : Fr 10 σ τ) (g : ∀ j, j ≠ 65 → υ j = τ j) : Inv υ :=
  I.frame (fun j hj => by unfold core at hj; rw [g j (by omega)]; exact f j (by omega)) (by rw [g 0 (by omega), f 0 (by omega)]) (by rw [g 63 (by omega), f 63 (by omega)])
theorem C_imagine {τ : nS} {r : Nat → Int32} {G P L w m : Nat} (h : CT τ 10 r G P L) (hw : WF r G P L) (hm : m < 1000) (hk : w < 1000) (e : r 3 = nI w) : ∃ υ, fX5_imagineWeeks_b13 4096 (nI m) (nI 0) τ = some ((), υ) ∧ CT υ 10 (wksR r G L m) G P L ∧ Fr 10 τ υ := by
  refine ploopS (fun n i τ => fX5_imagineWeeks_b13 n (nI m) (nI i) τ) (fun i υ => CT υ 10 (wksR r G L i) G P L ∧ Fr 10 τ υ) (fun o => ∃ υ, o = some ((), υ) ∧ CT υ 10 (wksR r G L m) G P L ∧ Fr 10 τ υ) m
    (fun n υ hI => ?_) (fun n i υ hi hI hk => ?_) 4096 0 τ (by omega) (by omega) ⟨h, Fr.rf⟩
  · simp (disch := omega) only [fX5_imagineWeeks_b13, pnl, pb, pb2, pinc, pnin, pc0, if_pos, if_true, ple]
    exact ⟨υ, rfl, hI⟩
  · obtain ⟨υ2, h1, h2, h3⟩ := C_passWeek hI.1 (WF_wksR hw i) (by omega) (wksR_3 hw.1 e i)
    simp (disch := omega) only [fX5_imagineWeeks_b13, ple, if_neg, h1, pnl, pb, pb2, pinc, pnin, pc0, if_pos, if_true]
    exact hk υ2 ⟨h2, hI.2.tr h3⟩
theorem S_openThen {σ : nS} (I : Inv σ) (x : Int32) : See σ (fX5_openThen x) (fX6_openThen x) := by
  simp only [See, fX5_openThen, fX6_openThen, M_isIn60, pb]
  cases h : decide (nin x 61) with
  | false =>
    rcases gfn (n := 60) h (by omega) with e | ⟨e, e'⟩
    · simp only [bif0, if_true, e]; exact ⟨_, _, σ, rfl, rfl, I⟩
    · rw [← pl60] at e'
      simp only [bif0, if_true, e, e', if_false]; exact ⟨_, _, σ, rfl, rfl, I⟩
  | true =>
    obtain ⟨m, hm, rfl⟩ := gtn h (by omega)
    obtain ⟨τ, r, G, P, L, w, e1, e2, e3, e4, e5, e6, e7, e8⟩ := mind I
    obtain ⟨υ, a1, a2, a3⟩ := C_imagine e3 e4 (show m < 1000 by omega) e6 e5
    simp (disch := omega) only [bit0, if_false, pneg, pl60, ple, if_pos, fX5_imagineWeeks, e1, pb2]
    rw [pl0, a1, pb2, a2.2.2.2.1, pcntJ, pb]
    have f := e2.tr a3
    have w1 : WF ((nU υ 65 r) 65) G P L := by rw [nU_s]; exact e4
    have w2 : WF ((nU (nU υ 65 r) 65 (wksR ((nU υ 65 r) 65) G L m)) 65) G P L := by rw [nU_s]; exact WF_wksR w1 m
    refine ⟨_, _, nU (nU υ 65 r) 65 (wksR r G L m), rfl, ?_, I.mind f (fun j hj => by rw [nU_n _ _ hj, nU_n _ _ hj])⟩
    rw [e7 υ (f 64 (by omega)) (f 65 (by omega)), pb2, M_weeksOn w1 (by omega), pb2, M_openIn w2, pb, M_cntOpen w2, pb]
    simp only [nU_s]
theorem S_hasThen {σ : nS} (I : Inv σ) (x y : Int32) : See σ (fX5_hasThen x y) (fX6_hasThen x y) := by
  obtain ⟨G, P, L, w, hw, hc, h3, h4, hG, hP, hL⟩ := I.1.get
  simp only [See, fX5_hasThen, fX6_hasThen, C_isGoods x hc.1 hG, pb]
  cases h2 : decide (nin x G) with
  | false =>
    simp only [bif0, if_true]
    exact ⟨_, _, σ, rfl, by rw [M_isGood x hw.2.2.2.1 hG, h2, pb]; simp only [bif0, if_true], I⟩
  | true =>
    simp only [bit0, if_false]
    cases h : decide (nin y 61) with
    | false =>
      have hm : (fX6_isGood x σ).bind (fun r2 => if r2 = 0 then some ((-1 : Int32), σ) else (fX6_isIn y 0 60 σ).bind fun r4 => if r4 = 0 then some ((-1 : Int32), σ) else nb2 (fX6_copies 64 65 σ) fun r6 t7 => nb2 (fX6_weeksOn 65 y t7) fun r9 t10 => (fX6_ofG x t10).bind fun r12 => if nin (r12 + (2 : Int32)) 74 then some ((t10 65 ((r12 + (2 : Int32))).toNatClampNeg), t10) else none) = some (-1, σ) := by
        rw [M_isGood x hw.2.2.2.1 hG, h2, pb, M_isIn60, h, pb]
        simp only [bif0, bit0, if_true, if_false]
      rcases gfn (n := 60) h (by omega) with e | ⟨e, e'⟩
      · simp only [e, if_true]; exact ⟨_, _, σ, rfl, hm, I⟩
      · rw [← pl60] at e'
        simp only [e, e', if_false]; exact ⟨_, _, σ, rfl, hm, I⟩
    | true =>
      have q2 := h2
      obtain ⟨g, hg, rfl⟩ := gtn h2 (by omega)
      have q1 := h
      obtain ⟨m, hm, rfl⟩ := gtn h (by omega)
      obtain ⟨τ, r, G', P', L', w', e1, e2, e3, e4, e5, e6, e7, e8⟩ := mind I
      have eG : G' = G := by
        have a1 := e4.2.2.2.1
        rw [e8 0 (by omega), hw.2.2.2.1] at a1
        have := e4.1
        have := (peq (by omega) (by omega)).mp a1
        omega
      subst eG
      obtain ⟨υ, a1, a2, a3⟩ := C_imagine e3 e4 (show m < 1000 by omega) e6 e5
      simp (disch := omega) only [pneg, if_false, pl60, ple, if_pos, fX5_imagineWeeks, e1, pb2]
      rw [pl0, a1, pb2]
      simp (disch := omega) only [pnl, pb, pb2, pinc, pnin, pc0, if_pos, if_true, (a2.2.2.2.2.2.1 g hg).2.2]
      have f := e2.tr a3
      refine ⟨_, _, nU (nU υ 65 r) 65 (wksR r G' L' m), rfl, ?_, I.mind f (fun j hj => by rw [nU_n _ _ hj, nU_n _ _ hj])⟩
      rw [M_isGood (σ := υ) (nI g) (by rw [f 64 (by omega)]; exact hw.2.2.2.1) hG, q2, pb]
      have e60 : fX6_isIn (nI m) (nI 0) (nI 60) υ = some (bi true) := by rw [← pl0, ← pl60, M_isIn60, q1]
      have w1 : WF ((nU υ 65 r) 65) G' P' L' := by rw [nU_s]; exact e4
      have b0 : ∀ b : Bool, (bi b = nI 0) = (bi b = 0) := fun b => by rw [← pl0]
      simp only [b0, bit0, if_false]
      rw [e60, pb, e7 υ (f 64 (by omega)) (f 65 (by omega)), pb2, M_weeksOn w1 (by omega), pb2]
      simp (disch := omega) only [b0, bit0, if_false, pnl, pb, pb2, p43, p344, p28, p66, pa0, pinc, pa2, pa3, pk0, pk1, pk2, pk3, tc0, tc1, tc2, tc3, pnin, pc0, if_pos, if_true, fX6_ofG, fX6_ofL, nU_s]
