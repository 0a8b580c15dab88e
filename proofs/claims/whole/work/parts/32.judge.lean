/-! PURE 23: told weeks looked at -/
theorem RV.frame {σ τ : nS} {d N : Nat} (h : RV σ d N) (e : ∀ j, j < 10 ∨ 18 < j → τ j = σ j) : RV τ d N := by
  unfold RV at h ⊢
  rw [e (29 + 2 * d) (by omega), e (29 + 2 * d + 1) (by omega), e 75 (by omega), e 76 (by omega), e 77 (by omega)]
  exact h
theorem judge_sync {σ : nS} {G P L w d N : Nat} (hd : d < 8) (hv : RV σ d N) (hk : w < 1000) : ∀ n i (τ : nS) (r : Nat → Int32), CT τ 10 r G P L → WF r G P L → r 3 = nI (w + i) → Fr 10 σ τ → i ≤ N → N < n + i →
    ∃ v υ, fX5_judge_b47 n (29 + 2 * d) (nI i) τ = some (v, υ) ∧ Fr 10 τ υ ∧ ∀ κ : nS, κ 65 = r → κ 75 = σ 75 → κ 76 = σ 76 → κ 77 = σ 77 → ∃ κ', fX6_judge_b26 n (nI d) (nI i) κ = some (v, κ') ∧ ∀ j, j ≠ 65 → κ' j = κ j := by
  intro n
  induction n with
  | zero => intro i τ r _ _ _ _ h1 h2; omega
  | succ n ih =>
    intro i τ r hc hw e hf h1 h2
    have hL := hw.2.2.1
    have hvt := hv.frame (τ := τ) (fun j hj => hf j (by omega))
    have hvt' := hvt
    obtain ⟨hN, v4, v76, v3, v75, vc⟩ := hvt
    have e76 : σ 76 d = nI N := hv.2.2.1
    have e77 : τ 77 = σ 77 := hf 77 (by omega)
    have e75 : τ 75 = σ 75 := hf 75 (by omega)
    by_cases c : N ≤ i
    · have c' : nI N ≤ nI i := by rw [ple (by omega) (by omega)]; exact c
      refine ⟨-4, τ, ?_, Fr.rf, fun κ e1 e2 e3 e4 => ⟨κ, ?_, fun _ _ => rfl⟩⟩
      · rw [fX5_judge_b47, v4, if_pos c']
      · rw [fX6_judge_b26, if_pos (pnd hd), pcd hd, e3, e76, if_pos c']
    · have c' : ¬ nI N ≤ nI i := by rw [ple (by omega) (by omega)]; exact c
      have i1 : nin (nI i) 100 := pnin0 (by omega) (by omega)
      have i2 : (nI i).toNatClampNeg = i := pc0 (by omega)
      obtain ⟨υ, a1, a2, a3⟩ := C_passWeek hc hw (show w + i + 1 < 2147483648 by omega) e
      obtain ⟨v, υ2, b1, b2, b3⟩ := ih (i + 1) υ (weekR r G L) a2 (WF_weekR hw) (by rw [weekR_3 hw.1, e, pinc]; rfl) (hf.tr a3) (by omega) (by omega)
      have go : ∀ κ : nS, κ 65 = r → κ 75 = σ 75 → κ 76 = σ 76 → κ 77 = σ 77 → ∃ κ', fX6_judge_b80 (fX6_judge_b26 n) (nI d) (nI i) κ = some (v, κ') ∧ ∀ j, j ≠ 65 → κ' j = κ j := by
        intro κ e1 e2 e3 e4
        have hw1 : WF (κ 65) G P L := by rw [e1]; exact hw
        obtain ⟨κ', c3, c4⟩ := b3 (nU κ 65 (weekR r G L)) (by rw [nU_s]) (by rw [nU_n _ _ (by omega)]; exact e2) (by rw [nU_n _ _ (by omega)]; exact e3) (by rw [nU_n _ _ (by omega)]; exact e4)
        refine ⟨κ', ?_, fun j hj => by rw [c4 j hj, nU_n _ _ hj]⟩
        rw [fX6_judge_b80, M_week hw1, pb2, pnl, pinc, e1]
        exact c3
      have goC : fX5_judge_b88 (fX5_judge_b47 n) (29 + 2 * d) (nI i) τ = some (v, υ2) := by
        rw [fX5_judge_b88, a1, pb2, pnl, pinc]
        exact b1
      have hM : ∀ κ : nS, κ 65 = r → κ 75 = σ 75 → κ 76 = σ 76 → κ 77 = σ 77 → fX6_judge_b26 (n + 1) (nI d) (nI i) κ = if σ 77 (100 * d + i) = lst (σ 75 d) then fX6_judge_b80 (fX6_judge_b26 n) (nI d) (nI i) κ else if σ 77 (100 * d + i) = cnt (bset (opn r) L) then fX6_judge_b80 (fX6_judge_b26 n) (nI d) (nI i) κ else some (nI i, κ) := by
        intro κ e1 e2 e3 e4
        have hw1 : WF (κ 65) G P L := by rw [e1]; exact hw
        rw [fX6_judge_b26, if_pos (pnd hd), pcd hd, e3, e76, if_neg c', if_pos (M_100 hd (by omega)), T_100 hd (by omega), pnl, if_pos (pnd hd), M_leastOf, pb, e2, e4, M_openIn hw1, pb, M_cntOpen hw1, pb, e1]
      rw [fX5_judge_b47, v4, if_neg c', C_isSkipped hvt' (show i < 100 by omega), pb, e77, e75]
      by_cases s : σ 77 (100 * d + i) = lst (σ 75 d)
      · rw [decide_eq_true s]
        simp only [bit0, if_false]
        refine ⟨v, υ2, goC, a3.tr b2, fun κ e1 e2 e3 e4 => ?_⟩
        rw [hM κ e1 e2 e3 e4, if_pos s]
        exact go κ e1 e2 e3 e4
      · rw [decide_eq_false s]
        simp only [bif0, if_true]
        rw [if_pos i1, hc.2.2.2.1, pcntJ, pb, i2, vc i (by omega), e77]
        by_cases s2 : σ 77 (100 * d + i) = cnt (bset (opn r) L)
        · rw [if_pos s2]
          refine ⟨v, υ2, goC, a3.tr b2, fun κ e1 e2 e3 e4 => ?_⟩
          rw [hM κ e1 e2 e3 e4, if_neg s, if_pos s2]
          exact go κ e1 e2 e3 e4
        · rw [if_neg s2]
          refine ⟨nI i, τ, rfl, Fr.rf, fun κ e1 e2 e3 e4 => ⟨κ, ?_, fun _ _ => rfl⟩⟩
          rw [hM κ e1 e2 e3 e4, if_neg s, if_neg s2]
theorem S_judge {σ : nS} (I : Inv σ) (x : Int32) : See σ (fX5_judge x) (fX6_judge x) := by
  simp only [See, fX5_judge, fX6_judge, C_isShelf, pb]
  cases h : decide (nin x 8) with
  | false =>
    refine ⟨-1, σ, σ, by simp only [bif0, if_true], ?_, I⟩
    rw [row_no h, pb]; simp
  | true =>
    obtain ⟨d, hd, rfl⟩ := gtn h (by omega)
    obtain ⟨N, hv⟩ := I.rv hd
    simp only [bit0, if_false, if_pos (pnd hd), pcd hd]
    rcases row_case I hd with ⟨e, e1, e2⟩ | ⟨v, hv, e1, e2⟩
    · rw [e1, pb]
      simp only [if_true]
      obtain ⟨τ, r, G, P, L, w, m1, m2, m3, m4, m5, m6, m7, m8⟩ := mind I
      obtain ⟨v, υ, a1, a2, a3⟩ := judge_sync hd hv m6 4096 0 τ r m3 m4 m5 m2 (by omega) (by have := hv.1; omega)
      have f := m2.tr a2
      obtain ⟨κ', b1, b2⟩ := a3 (nU υ 65 r) (by rw [nU_s]) (by rw [nU_n _ _ (by omega)]; exact f 75 (by omega)) (by rw [nU_n _ _ (by omega)]; exact f 76 (by omega)) (by rw [nU_n _ _ (by omega)]; exact f 77 (by omega))
      rw [m1, pb2, pl0, a1]
      refine ⟨v, υ, κ', rfl, ?_, I.mind f (fun j hj => by rw [b2 j hj, nU_n _ _ hj])⟩
      rw [row_frame (σ := σ) (f 72 (by omega)) (f 75 (by omega)), e2, pb]
      simp only [← pl0, if_true]
      rw [m7 υ (f 64 (by omega)) (f 65 (by omega)), pb2, pl0, b1]
    · rw [e1, pb]
      simp only [hv, if_false]
      refine ⟨v, σ, σ, rfl, ?_, I⟩
      rw [e2, pb]
      simp only [hv, if_false]
