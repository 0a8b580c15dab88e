/-! PURE 42: one statement done -/
theorem C_digit {τ : nS} {k N i : Nat} {c : Nat → Int32} (hN : N ≤ 100) (e4 : τ k 4 = nI N) (ec : ∀ j, j < 100 → τ (k + 1) j = c j) (hi : i < 1000) : fX1_digit k (nI i) τ = some (if i < N then c i - 48 else 0) := by
  rw [fX1_digit, C_isPlace _ e4 hN, pb]
  by_cases q : i < N
  · rw [decide_eq_true (pnin0 (by omega) q), if_neg (by decide), if_pos (pnin0 (by omega) (by omega)), pc0 (by omega), ec i (by omega), if_pos q]
  · have hn : ¬ nin (nI i) N := by rw [pnin (by omega)]; exact q
    rw [decide_eq_false hn, if_pos bi_f, if_neg q]
theorem cnt_nn : ∀ v, v < 256 → ¬ cnt v < 0 := by decide +kernel
/-- what one statement leaves -/
def PO (c : Nat → Int32) (q : Nat) (r : Nat → Int32) (v : Int32) (τ' : nS) : Prop :=
  (∃ (r' : Nat → Int32) (G' P' L' w' : Nat), ¬ v < 0 ∧ CT τ' 10 r' G' P' L' ∧ WF r' G' P' L' ∧ r' 3 = nI w' ∧ w' < 1000 ∧ ∀ κ : nS, κ 64 = r → NB c q (κ 68) → fX6_isDone (c q) κ = some (1, nU κ 64 r')) ∨
  (v < 0 ∧ ∀ κ : nS, κ 64 = r → NB c q (κ 68) → fX6_isDone (c q) κ = some (0, κ))
theorem D_p {τ : nS} {c : Nat → Int32} {q w : Nat} {r : Nat → Int32} {G P L : Nat} (hc : CT τ 10 r G P L) (hw : WF r G P L) (h3 : r 3 = nI w) (hk : w < 1000) (c3 : c q = 112) (hx : nin (c (q + 1) - 48) 10) : ∃ v τ', (nb2 (fX4_addPerson 10 (c (q + 1) - 48) τ) fun r17 t18 => some (r17, t18)) = some (v, τ') ∧ Fr 10 τ τ' ∧ PO c q r v τ' := by
  have nd : ∀ κ : nS, NB c q (κ 68) → fX6_isDone (c q) κ = nb2 (fX6_addsPerson (c (q + 1) - 48) κ) fun r27 t28 => if n01 r27 then some (r27, t28) else none := by
    intro κ hn
    have h0 := hn.2.1 (by rw [c3]; decide)
    rw [fX6_isDone, if_pos (by decide), pnl, if_pos (by decide), pnl, c3, if_neg (by decide), if_neg (by decide), if_pos (by decide), tc0, h0]
  by_cases h6 : P < 6
  · obtain ⟨τ', e1, e2, e3⟩ := C_addPerson hc hw h6 hx
    rw [e1, pb2]
    refine ⟨nI P, τ', rfl, e3, Or.inl ⟨_, G, P + 1, L, w, by rw [pneg (by omega)]; simp, e2, WF_addP hw h6 hx, by rw [addP, upd_n _ _ (by omega), upd_n _ _ (by omega)]; exact h3, hk, fun κ k1 k2 => ?_⟩⟩
    have hw' : WF (κ 64) G P L := by rw [k1]; exact hw
    rw [nd κ k2, M_addsPerson hw' h6, pb2, if_pos (Or.inr rfl), k1]
  · have hP := hw.2.1
    have : P = 6 := by omega
    subst this
    rw [C_addPerson_full hc.2.1 hx, pb2]
    refine ⟨-2, τ, rfl, Fr.rf, Or.inr ⟨by decide, fun κ k1 k2 => ?_⟩⟩
    have hw' : WF (κ 64) G 6 L := by rw [k1]; exact hw
    rw [nd κ k2, M_addsPerson_full hw' h6, pb2, if_pos (Or.inl rfl)]
theorem D_g {τ : nS} {c : Nat → Int32} {q w : Nat} {r : Nat → Int32} {G P L : Nat} (hc : CT τ 10 r G P L) (hw : WF r G P L) (h3 : r 3 = nI w) (hk : w < 1000) (c1 : c q = 103) (hx : nin (c (q + 1) - 48) 10) (hy : nin (c (q + 2) - 48) 10) (hz : nin (c (q + 3) - 48) 10) : ∃ v τ', (nb2 (fX4_addGoods 10 (c (q + 1) - 48) (c (q + 2) - 48) (c (q + 3) - 48) τ) fun r17 t18 => some (r17, t18)) = some (v, τ') ∧ Fr 10 τ τ' ∧ PO c q r v τ' := by
  have hP := hw.2.1
  have hG := hw.1
  have nd : ∀ κ : nS, κ 64 = r → NB c q (κ 68) → fX6_isDone (c q) κ = if (8 : Int32) ≤ c (q + 1) - 48 then some ((0 : Int32), κ) else if decide (nin (c (q + 3) - 48) P) = false then some ((0 : Int32), κ) else if nI G = (8 : Int32) then some ((0 : Int32), κ) else nb2 (fX6_addsGood (c (q + 1) - 48) (c (q + 2) - 48) (c (q + 3) - 48) κ) fun r11 t12 => some ((1 : Int32), t12) := by
    intro κ k1 hn
    have h0 := hn.2.1 (by rw [c1]; decide)
    have h1 := hn.2.2.1 (Or.inl c1)
    have h2 := hn.2.2.2 c1
    have hp := M_isPerson (σ := κ) (c (q + 3) - 48) (by rw [k1]; exact hw.2.2.2.2.1) (show P ≤ 8 by omega)
    rw [fX6_isDone, if_pos (by decide), pnl, if_pos (by decide), pnl, c1, if_pos rfl, tc0, tc1, h0, h1]
    simp only [if_pos (show nin (2 : Int32) 3 by decide), if_true, tc2, h2, hp, pb, bi0, pk0, tc0, k1, hw.2.2.2.1]
  cases q1 : decide (nin (c (q + 1) - 48) 8) with
  | false =>
    have n8 : (8 : Int32) ≤ c (q + 1) - 48 := by
      have := of_decide_eq_false q1
      unfold nin at this hx
      rw [le_ti, ti8]; omega
    refine ⟨-1, τ, ?_, Fr.rf, Or.inr ⟨by decide, fun κ k1 k2 => ?_⟩⟩
    · rw [fX4_addGoods, C_isKind, q1, pb, if_pos bi_f, pb2]
    · rw [nd κ k1 k2, if_pos n8]
  | true =>
    have n8 : ¬ (8 : Int32) ≤ c (q + 1) - 48 := by
      have := of_decide_eq_true q1
      unfold nin at this
      rw [le_ti, ti8]; omega
    cases q3 : decide (nin (c (q + 3) - 48) P) with
    | false =>
      refine ⟨-1, τ, ?_, Fr.rf, Or.inr ⟨by decide, fun κ k1 k2 => ?_⟩⟩
      · rw [fX4_addGoods, C_isKind, q1, pb, if_neg (by decide), C_isFigure, decide_eq_true hy, pb, if_neg (by decide), C_isPerson _ hc.2.1 (show P ≤ 8 by omega), q3, pb, if_pos bi_f, pb2]
      · rw [nd κ k1 k2, if_neg n8, q3, if_pos rfl]
    | true =>
      by_cases h8 : G < 8
      · obtain ⟨τ', e1, e2, e3⟩ := C_addGoods hc hw h8 (of_decide_eq_true q1) hy (of_decide_eq_true q3)
        rw [e1, pb2]
        refine ⟨nI G, τ', rfl, e3, Or.inl ⟨_, G + 1, P, L, w, by rw [pneg (by omega)]; simp, e2, WF_addG hw h8 (of_decide_eq_true q1) hy (of_decide_eq_true q3), ?_, hk, fun κ k1 k2 => ?_⟩⟩
        · unfold addG; simp (disch := omega) only [upd_n]; exact h3
        · have hw' : WF (κ 64) G P L := by rw [k1]; exact hw
          rw [nd κ k1 k2, if_neg n8, q3, if_neg (by decide), if_neg (by rw [pl8, peq (by omega) (by omega)]; omega), M_addsGood hw' h8, pb2, k1]
      · have : G = 8 := by omega
        subst this
        refine ⟨-2, τ, ?_, Fr.rf, Or.inr ⟨by decide, fun κ k1 k2 => ?_⟩⟩
        · rw [fX4_addGoods, C_isKind, q1, pb, if_neg (by decide), C_isFigure, decide_eq_true hy, pb, if_neg (by decide), C_isPerson _ hc.2.1 (show P ≤ 8 by omega), q3, pb, if_neg (by decide), hc.1, if_neg (by decide), pb2]
        · rw [nd κ k1 k2, if_neg n8, q3, if_neg (by decide), if_pos pl8.symm]
theorem D_l {τ : nS} {c : Nat → Int32} {q w : Nat} {r : Nat → Int32} {G P L : Nat} (hc : CT τ 10 r G P L) (hw : WF r G P L) (h3 : r 3 = nI w) (hk : w < 1000) (c2 : c q = 108) : ∃ v τ', (nb2 (fX4_addLoan 10 (c (q + 1) - 48) (c (q + 2) - 48) τ) fun r17 t18 => some (r17, t18)) = some (v, τ') ∧ Fr 10 τ τ' ∧ PO c q r v τ' := by
  have hP := hw.2.1
  have hG := hw.1
  have hL := hw.2.2.1
  generalize hx : c (q + 1) - 48 = x
  generalize hy : c (q + 2) - 48 = y
  have nd : ∀ κ : nS, κ 64 = r → NB c q (κ 68) → fX6_isDone (c q) κ = if decide (nin x G) = false then some ((0 : Int32), κ) else if decide (nin y P) = false then some ((0 : Int32), κ) else (fX6_ofG x κ).bind fun r19 => if nin (r19 + (2 : Int32)) 74 then if (κ 64 ((r19 + (2 : Int32))).toNatClampNeg) = y then some ((0 : Int32), κ) else if nin (2 : Int32) 74 then if (κ 64 ((2 : Int32)).toNatClampNeg) = (8 : Int32) then some ((0 : Int32), κ) else nb2 (fX6_addsLoan x y κ) fun r23 t24 => some ((1 : Int32), t24) else none else none := by
    intro κ k1 hn
    have h0 := hn.2.1 (by rw [c2]; decide)
    have h1 := hn.2.2.1 (Or.inr (Or.inl c2))
    rw [hx] at h0
    rw [hy] at h1
    have hp := M_isPerson (σ := κ) y (by rw [k1]; exact hw.2.2.2.2.1) (show P ≤ 8 by omega)
    have hg := M_isGood (σ := κ) x (by rw [k1]; exact hw.2.2.2.1) hG
    rw [fX6_isDone, if_pos (by decide), pnl, if_pos (by decide), pnl, c2, if_neg (by decide), if_pos rfl, tc0, tc1, h0, h1, hg, pb]
    simp only [hp, pb, bi0]
  cases q1 : decide (nin x G) with
  | false =>
    refine ⟨-1, τ, by rw [C_addLoan_g hc.1 hG q1, pb2], Fr.rf, Or.inr ⟨by decide, fun κ k1 k2 => ?_⟩⟩
    rw [nd κ k1 k2, q1, if_pos rfl]
  | true =>
    cases q2 : decide (nin y P) with
    | false =>
      refine ⟨-1, τ, by rw [C_addLoan_p hc.1 hG q1 hc.2.1 hP q2, pb2], Fr.rf, Or.inr ⟨by decide, fun κ k1 k2 => ?_⟩⟩
      rw [nd κ k1 k2, q1, if_neg (by decide), q2, if_pos rfl]
    | true =>
      have q1' := q1
      obtain ⟨g, hg, eg⟩ := gtn q1 (by omega)
      have b3 := (hc.2.2.2.2.2.1 g hg).2.2
      have mid : ∀ κ : nS, κ 64 = r → NB c q (κ 68) → fX6_isDone (c q) κ = if r (4 + 3 * g + 2) = y then some ((0 : Int32), κ) else if nI L = (8 : Int32) then some ((0 : Int32), κ) else nb2 (fX6_addsLoan (nI g) y κ) fun r23 t24 => some ((1 : Int32), t24) := by
        intro κ k1 k2
        rw [nd κ k1 k2, q1', if_neg (by decide), q2, if_neg (by decide), eg]
        simp (disch := omega) only [pnl, pb, pb2, p43, p344, p28, p66, pa0, pinc, pa2, pa3, pk0, pk1, pk2, pk3, tc0, tc1, tc2, tc3, pnin, pc0, if_pos, if_true, fX6_ofG, fX6_ofL, k1, hw.2.2.2.2.2.1]
      rw [eg]
      by_cases ho : r (4 + 3 * g + 2) = y
      · refine ⟨-3, τ, by rw [C_addLoan_o hc.1 hG hg hc.2.1 hP q2 (by rw [b3]; exact ho), pb2], Fr.rf, Or.inr ⟨by decide, fun κ k1 k2 => ?_⟩⟩
        rw [mid κ k1 k2, if_pos ho]
      · by_cases h8 : L < 8
        · have hyP := of_decide_eq_true q2
          obtain ⟨τ', e1, e2, e3⟩ := C_addLoan hc hw h8 hg hyP ho
          rw [e1, pb2]
          refine ⟨nI L, τ', rfl, e3, Or.inl ⟨_, G, P, L + 1, w, by rw [pneg (by omega)]; simp, e2, WF_addL hw h8 hg hyP, by rw [addL_3 (by omega)]; exact h3, hk, fun κ k1 k2 => ?_⟩⟩
          have hw' : WF (κ 64) G P L := by rw [k1]; exact hw
          rw [mid κ k1 k2, if_neg ho, if_neg (by rw [pl8, peq (by omega) (by omega)]; omega), M_addsLoan hw' h8 hg, pb2, k1]
        · have : L = 8 := by omega
          subst this
          refine ⟨-2, τ, by rw [C_addLoan_f hc.1 hG hg hc.2.1 hP q2 (by rw [b3]; exact ho) hc.2.2.1, pb2], Fr.rf, Or.inr ⟨by decide, fun κ k1 k2 => ?_⟩⟩
          rw [mid κ k1 k2, if_neg ho, if_pos pl8.symm]
theorem D_s {τ : nS} {c : Nat → Int32} {q w : Nat} {r : Nat → Int32} {G P L : Nat} (hc : CT τ 10 r G P L) (hw : WF r G P L) (h3 : r 3 = nI w) (hk : w < 1000) (c4 : c q = 115) (hx : nin (c (q + 1) - 48) 10) (hy : nin (c (q + 2) - 48) 10) : ∃ v τ', (nb2 (fX4_liken 10 (c (q + 1) - 48) (c (q + 2) - 48) τ) fun r17 t18 => some (r17, t18)) = some (v, τ') ∧ Fr 10 τ τ' ∧ PO c q r v τ' := by
  obtain ⟨a, ha, ea⟩ := pof hx (by omega)
  obtain ⟨b, hb, eb⟩ := pof hy (by omega)
  have nd : ∀ κ : nS, NB c q (κ 68) → fX6_isDone (c q) κ = if 8 ≤ a then some ((0 : Int32), κ) else if b < 8 then some ((1 : Int32), nU κ 64 (upd (κ 64) (66 + b) (κ 64 (66 + a)))) else some ((0 : Int32), κ) := by
    intro κ hn
    have h0 := hn.2.1 (by rw [c4]; decide)
    have h1 := hn.2.2.1 (Or.inr (Or.inr c4))
    rw [ea] at h0
    rw [eb] at h1
    have l1 : ((8 : Int32) ≤ nI a) = (8 ≤ a) := by rw [pl8, ple (by omega) (by omega)]
    have l2 : (nI b < (8 : Int32)) = (b < 8) := by rw [pl8, plt (by omega) (by omega)]
    rw [fX6_isDone, if_pos (by decide), pnl, if_pos (by decide), pnl, c4, if_neg (by decide), if_neg (by decide), if_neg (by decide), if_pos rfl, tc0, tc1, h0, h1, p66, p66]
    by_cases z1 : 8 ≤ a
    · rw [if_pos (by rw [l1]; exact z1), if_pos z1]
    · rw [if_neg (by rw [l1]; exact z1), if_neg z1]
      by_cases z2 : b < 8
      · rw [if_pos (by rw [l2]; exact z2), if_pos z2, if_pos (pnin0 (by omega) (by omega)), if_pos (pnin0 (by omega) (by omega)), pc0 (by omega), pc0 (by omega), pnl]
      · rw [if_neg (by rw [l2]; exact z2), if_neg z2]
  rw [ea, eb]
  have dk : ∀ z, z < 10 → decide (nin (nI z) 8) = decide (z < 8) := by decide
  by_cases z1 : a < 8
  · by_cases z2 : b < 8
    · obtain ⟨τ', e1, e2, e3⟩ := C_liken hc hw z1 z2
      have hcb := hw.2.2.2.2.2.2.2.2.2 b z2
      obtain ⟨m, hm, em⟩ := pof hcb (by omega)
      rw [e1, pb2]
      refine ⟨r (66 + b), τ', rfl, e3, Or.inl ⟨_, G, P, L, w, by rw [em, pneg (by omega)]; simp, e2, WF_lik hw z1 z2, by rw [lik, upd_n _ _ (by omega)]; exact h3, hk, fun κ k1 k2 => ?_⟩⟩
      rw [nd κ k2, if_neg (by omega), if_pos z2, k1]; rfl
    · refine ⟨-1, τ, ?_, Fr.rf, Or.inr ⟨by decide, fun κ k1 k2 => ?_⟩⟩
      · rw [fX4_liken, C_isKind, dk a ha, decide_eq_true z1, pb, if_neg (by decide), C_isKind, dk b hb, decide_eq_false z2, pb, if_pos bi_f, pb2]
      · rw [nd κ k2, if_neg (by omega), if_neg z2]
  · refine ⟨-1, τ, ?_, Fr.rf, Or.inr ⟨by decide, fun κ k1 k2 => ?_⟩⟩
    · rw [fX4_liken, C_isKind, dk a ha, decide_eq_false z1, pb, if_pos bi_f, pb2]
    · rw [nd κ k2, if_pos (by omega)]
theorem D_w {τ : nS} {c : Nat → Int32} {q w : Nat} {r : Nat → Int32} {G P L : Nat} (hc : CT τ 10 r G P L) (hw : WF r G P L) (h3 : r 3 = nI w) (hk : w < 1000) (c5 : c q = 119) (hx : nin (c (q + 1) - 48) 10) (hy : nin (c (q + 2) - 48) 10) : ∃ v τ', (nb2 (fX4_passWeeks 10 ((10 : Int32) * (c (q + 1) - 48) + (c (q + 2) - 48)) τ) fun r17 t18 => some (r17, t18)) = some (v, τ') ∧ Fr 10 τ τ' ∧ PO c q r v τ' := by
  have hG := hw.1
  have hL := hw.2.2.1
  obtain ⟨a, ha, ea⟩ := pof hx (by omega)
  obtain ⟨b, hb, eb⟩ := pof hy (by omega)
  have em : (10 : Int32) * (c (q + 1) - 48) + (c (q + 2) - 48) = nI (10 * a + b) := by rw [ea, eb]; exact p10 a b
  rw [em]
  have hm : 10 * a + b < 100 := by omega
  generalize 10 * a + b = m at em hm
  have nd : ∀ κ : nS, κ 64 = r → NB c q (κ 68) → fX6_isDone (c q) κ = if ¬ (1 ≤ m ∧ m ≤ 60) then some ((0 : Int32), κ) else if w + m ≤ 999 then nb2 (fX6_weeksOn 64 (nI m) κ) fun r39 t40 => some ((1 : Int32), t40) else some ((0 : Int32), κ) := by
    intro κ k1 hn
    have h0 := hn.1 c5
    rw [em] at h0
    have ti := pti (show m < 2147483648 by omega)
    have l9 : ((nI w + nI m) ≤ (999 : Int32)) = (w + m ≤ 999) := by rw [padd, pl999, ple (by omega) (by omega)]
    rw [fX6_isDone, if_pos (by decide), pnl, if_pos (by decide), pnl, c5, if_neg (by decide), if_neg (by decide), if_neg (by decide), if_neg (by decide), tc0, h0, M_isIn, ti1, ti60, ti, pb]
    simp only [pk3, if_true, tc3, k1, h3, l9]
    by_cases z : 1 ≤ m ∧ m ≤ 60
    · have dz : decide (1 ≤ (m : Int) ∧ (m : Int) ≤ 60) = true := decide_eq_true (by omega)
      rw [dz, if_neg (by decide), if_neg (show ¬ ¬ (1 ≤ m ∧ m ≤ 60) from fun y => y z)]
    · have dz : decide (1 ≤ (m : Int) ∧ (m : Int) ≤ 60) = false := decide_eq_false (by omega)
      rw [dz, if_pos bi_f, if_pos z]
  by_cases z : 1 ≤ m ∧ m ≤ 60
  · by_cases z2 : w + m ≤ 999
    · obtain ⟨τ', e1, e2, e3⟩ := C_passWeeks hc hw hk (show m < 1000 by omega) h3
      have hlt : bset (opn (wksR r G L m)) L < 256 := by
        have h1 := bset_lt (opn (wksR r G L m)) L
        have h2 : 2 ^ L ≤ 2 ^ 8 := Nat.pow_le_pow_right (by omega) hL
        omega
      have k1 : fX4_passWeeks 10 (nI m) τ = fX4_passWeeks_b30 4096 10 (nI m) (nI 0) τ := by
        simp only [fX4_passWeeks]
        simp (disch := omega) only [pl1, pl60, plt, ple, if_neg, if_pos, hc.2.2.2.2.1, h3, padd, pl999, pl0]
      rw [k1, e1, pb2]
      refine ⟨_, τ', rfl, e3, Or.inl ⟨_, G, P, L, w + m, cnt_nn _ hlt, e2, WF_wksR hw m, wksR_3 hG h3 m, by omega, fun κ k1 k2 => ?_⟩⟩
      have hw' : WF (κ 64) G P L := by rw [k1]; exact hw
      rw [nd κ k1 k2, if_neg (show ¬ ¬ (1 ≤ m ∧ m ≤ 60) from fun y => y z), if_pos z2, M_weeksOn hw' (by omega), pb2, k1]
    · refine ⟨-3, τ, ?_, Fr.rf, Or.inr ⟨by decide, fun κ k1 k2 => ?_⟩⟩
      · have k1 : fX4_passWeeks 10 (nI m) τ = some (-3, τ) := by
          simp only [fX4_passWeeks]
          simp (disch := omega) only [pl1, pl60, plt, ple, if_neg, if_pos, hc.2.2.2.2.1, h3, padd, pl999]
        rw [k1, pb2]
      · rw [nd κ k1 k2, if_neg (show ¬ ¬ (1 ≤ m ∧ m ≤ 60) from fun y => y z), if_neg z2]
  · refine ⟨-1, τ, ?_, Fr.rf, Or.inr ⟨by decide, fun κ k1 k2 => ?_⟩⟩
    · have k1 : fX4_passWeeks 10 (nI m) τ = some (-1, τ) := by
        simp only [fX4_passWeeks, lt_ti, le_ti, ti1, ti60, pti (show m < 2147483648 by omega)]
        by_cases y : (m : Int) < 1
        · rw [if_pos y]
        · rw [if_neg y, if_neg (by omega)]
      rw [k1, pb2]
    · rw [nd κ k1 k2, if_pos z]
