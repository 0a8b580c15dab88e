/-! PURE 38: shortest, whole -/
theorem M_tell1 {σ : nS} {d N n i : Nat} {y : Int32} (hd : d < 8) (hN : N ≤ 100) (e76 : σ 76 d = nI N) (hi : i < N) : (okc σ d i → fX6_shortest_b40 (n + 1) (nI d) y (nI 0) (nI i) σ = fX6_shortest_b40 n (nI d) y (nI 0) (nI (i + 1)) σ) ∧ (¬ okc σ d i → fX6_shortest_b40 (n + 1) (nI d) y (nI 0) (nI i) σ = fX6_shortest_b40 n (nI d) y (-13) (nI (i + 1)) σ) := by
  have c' : ¬ nI N ≤ nI i := by rw [ple (by omega) (by omega)]; omega
  have hmod : nI i - nI i / (3 : Int32) * (3 : Int32) = nI (i % 3) := by rw [pl3]; exact pk_rem (by omega) (by omega) (by omega)
  have l2 : (nI (i % 3) = 2) = (i % 3 = 2) := by rw [pl2, peq (by omega) (by omega)]
  have e82 : fX6_shortest_b40 (n + 1) (nI d) y (nI 0) (nI i) σ = if i % 3 = 2 then fX6_shortest_b82 (fX6_shortest_b40 n) (nI d) y (nI 0) (nI i) 1 0 (σ 77 (100 * d + i)) σ else fX6_shortest_b82 (fX6_shortest_b40 n) (nI d) y (nI 0) (nI i) 7 0 (σ 77 (100 * d + i)) σ := by
    rw [fX6_shortest_b40, if_pos pl0.symm, if_pos (pnd hd), pcd hd, e76, if_neg c', if_pos (M_100 hd (by omega)), hmod, T_100 hd (by omega)]
    simp only [l2]
  rw [e82]
  by_cases q : i % 3 = 2
  · have eo : okc σ d i = nin (σ 77 (100 * d + i)) 2 := by unfold okc; rw [if_pos q]
    rw [if_pos q, fX6_shortest_b82, M_isIn1, pb, eo]
    refine ⟨fun h => ?_, fun h => ?_⟩
    · rw [decide_eq_true h, if_neg (by decide), pnl, pinc]
    · rw [decide_eq_false h, if_pos bi_f, pnl, pinc]
  · have eo : okc σ d i = nin (σ 77 (100 * d + i)) 8 := by unfold okc; rw [if_neg q]
    rw [if_neg q, fX6_shortest_b82, M_isIn7, pb, eo]
    refine ⟨fun h => ?_, fun h => ?_⟩
    · rw [decide_eq_true h, if_neg (by decide), pnl, pinc]
    · rw [decide_eq_false h, if_pos bi_f, pnl, pinc]
theorem M_b97 {σ : nS} {x y v : Int32} (hv : ¬ v = 0) {n : Nat} {i : Int32} : fX6_shortest_b40 (n + 1) x y v i σ = some (v, σ) := by
  rw [fX6_shortest_b40, if_neg hv, fX6_shortest_b97, if_neg hv]
def FS (σ τ : nS) : Prop := ∀ j, j ≠ 60 → j ≠ 61 → j ≠ 62 → τ j = σ j
theorem S_shortest {σ : nS} (I : Inv σ) (x y : Int32) : See σ (fX5_shortest x y) (fX6_shortest x y) := by
  simp only [See, fX5_shortest, fX6_shortest, C_isShelf, M_isIn y, tim1, ti7, pb]
  cases hky : decide (-1 ≤ y.toInt ∧ y.toInt ≤ 7) with
  | false =>
    have h := of_decide_eq_false hky
    refine ⟨-1, σ, σ, ?_, by simp only [bif0, if_true], I⟩
    cases decide (nin x 8) with
    | false => simp only [bif0, if_true]
    | true =>
      simp only [bit0, if_false, lt_ti, tim1, ti8]
      by_cases c : y.toInt < -1
      · rw [if_pos c]
      · rw [if_neg c, if_neg (by omega)]
  | true =>
    have hk := of_decide_eq_true hky
    have hy : y = -1 ∨ ∃ k, k < 8 ∧ y = nI k := by
      by_cases c : y.toInt = -1
      · exact Or.inl (Int32.toInt_inj.mp (by rw [c, tim1]))
      · obtain ⟨k, h1, h2⟩ := pof (x := y) (n := 8) ⟨by omega, by omega⟩ (by omega)
        exact Or.inr ⟨k, h1, h2⟩
    have y1 : ¬ y < -1 := by rw [lt_ti, tim1]; omega
    have y2 : y < 8 := by rw [lt_ti, ti8]; omega
    simp only [bit0, if_false, if_neg y1, if_pos y2]
    have hno : ∀ (v : Int32) (τ : nS), ¬ v = 0 → fX6_shortest_b40 4096 x y v 0 τ = some (v, τ) := fun v τ hv => M_b97 hv
    cases h : decide (nin x 8) with
    | false => refine ⟨-1, σ, σ, by simp only [bif0, if_true], ?_, I⟩; rw [row_no h, pb, if_neg (by decide), hno _ _ (by decide)]
    | true =>
      obtain ⟨d, hd, rfl⟩ := gtn h (by omega)
      obtain ⟨N, hv⟩ := I.rv hd
      simp only [bit0, if_false, if_pos (pnd hd), pcd hd]
      rcases row_case I hd with ⟨e, e1, e2⟩ | ⟨v, hv0, e1, e2⟩
      · rw [e1, pb]
        simp only [if_true]
        have hN := hv.1
        have hm3 : (nI N - nI N / (3 : Int32) * (3 : Int32)) = nI (N % 3) := by rw [pl3]; exact pk_rem (by omega) (by omega) (by omega)
        have l0 : (nI (N % 3) = 0) = (N % 3 = 0) := by rw [pl0, peq (by omega) (by omega)]
        by_cases c3 : N % 3 = 0
        · obtain ⟨T, rfl⟩ : ∃ T, N = 3 * T := ⟨N / 3, by omega⟩
          have hM0 : ∀ τ : nS, (∀ j, 72 ≤ j → τ j = σ j) → ((fX6_wrongRow (nI d) (-1) τ).bind fun r16 => if r16 = 0 then if (τ 76 d - τ 76 d / (3 : Int32) * (3 : Int32)) = 0 then fX6_shortest_b40 4096 (nI d) y r16 (0 : Int32) τ else fX6_shortest_b40 4096 (nI d) y (-13 : Int32) (0 : Int32) τ else fX6_shortest_b40 4096 (nI d) y r16 (0 : Int32) τ) = fX6_shortest_b40 4096 (nI d) y (nI 0) (nI 0) τ := by
            intro τ ht
            rw [row_frame (σ := σ) (ht 72 (by omega)) (ht 75 (by omega)), e2, pb, if_pos rfl, ht 76 (by omega), hv.2.2.1, hm3, if_pos (by rw [l0]; exact c3)]
            rfl
          rcases C_tells hv with ⟨t1, t2⟩ | ⟨t1, m, m1, m2, m3⟩
          · rw [t1, pb]
            simp only [show ¬ (1 : Int32) = 0 by decide, if_false]
            obtain ⟨-, v4, v76, v3, v75, vc⟩ := hv
            -- what is told
            have hcell : ∀ i, i < 3 * T → σ 77 (100 * d + i) = nI (el σ d i) ∧ el σ d i < (if i % 3 = 2 then 2 else 8) := fun i hi => by
              have := t2 i hi
              unfold okc at this
              exact ⟨(nin_n this (by split <;> omega)).2, (nin_n this (by split <;> omega)).1⟩
            generalize haa : (fun t => el σ d (3 * t)) = aa
            generalize hbb : (fun t => el σ d (3 * t + 1)) = bb
            generalize hss : (fun t => el σ d (3 * t + 2)) = ss
            have ea : ∀ t, aa t = el σ d (3 * t) := fun t => by rw [← haa]
            have eb : ∀ t, bb t = el σ d (3 * t + 1) := fun t => by rw [← hbb]
            have es : ∀ t, ss t = el σ d (3 * t + 2) := fun t => by rw [← hss]
            have cells : ∀ t, t < T → σ 77 (100 * d + 3 * t) = nI (aa t) ∧ σ 77 (100 * d + (3 * t + 1)) = nI (bb t) ∧ σ 77 (100 * d + (3 * t + 2)) = nI (ss t) ∧ aa t < 8 ∧ bb t < 8 ∧ ss t < 2 := by
              intro t ht
              obtain ⟨p1, p2⟩ := hcell (3 * t) (by omega)
              obtain ⟨p3, p4⟩ := hcell (3 * t + 1) (by omega)
              obtain ⟨p5, p6⟩ := hcell (3 * t + 2) (by omega)
              rw [if_neg (by omega)] at p2 p4
              rw [if_pos (by omega)] at p6
              rw [ea, eb, es]
              exact ⟨p1, p3, p5, p2, p4, p6⟩
            have hTC : TC σ (29 + 2 * d) T aa bb ss := by
              refine ⟨by omega, v4, fun t ht => ?_⟩
              obtain ⟨p1, p2, p3, p4⟩ := cells t ht
              rw [vc _ (by omega), vc _ (by omega), vc _ (by omega)]
              exact ⟨p1, p2, p3, p4⟩
            have hMC : ∀ υ : nS, (∀ j, 72 ≤ j → υ j = σ j) → MC (nU υ 63 (upd (υ 63) 13 (nI d))) d T aa bb ss := by
              intro υ hu
              refine ⟨⟨by omega, ?_, fun t ht => ?_⟩, ?_⟩
              · rw [nU_n _ _ (by omega), hu 76 (by omega)]; exact v76
              · obtain ⟨p1, p2, p3, p4⟩ := cells t ht
                rw [nU_n _ _ (by omega), hu 77 (by omega)]
                exact ⟨p1, p2, p3, p4⟩
              · rw [nU_s, upd_s]
            have hMb : ∀ υ : nS, (∀ j, 72 ≤ j → υ j = σ j) → fX6_shortest_b40 4096 (nI d) y (nI 0) (nI 0) υ = fX6_shortest_b111 4096 y (nI 1) (nU υ 63 (upd (υ 63) 13 (nI d))) := by
              intro υ hu
              have ok2 : ∀ i, i < 3 * T → okc υ d i := fun i hi => by unfold okc; rw [hu 77 (by omega)]; exact t2 i hi
              exact ploop (fun n i => fX6_shortest_b40 n (nI d) y (nI 0) (nI i) υ) _ (3 * T)
                (fun n => by
                  rw [fX6_shortest_b40, if_pos pl0.symm, if_pos (pnd hd), pcd hd, hu 76 (by omega), v76, if_pos (by rw [ple (by omega) (by omega)]; omega), fX6_shortest_b97, if_pos pl0.symm, pnl]
                  rfl)
                (fun n i hi => (M_tell1 hd hN (by rw [hu 76 (by omega)]; exact v76) hi).1 (ok2 i hi)) 4096 0 (by omega) (by omega)
            obtain ⟨R, Bn, υ, r1, r2, r3, r4, r5⟩ := C_read hTC (by omega)
            rw [fX2_fewest, r1, pb2]
            have Fin : ∀ (κ κ' : nS), FS σ κ → (∀ j, j ≠ 71 → κ' j = (nU κ 63 (upd (κ 63) 13 (nI d))) j) → Inv κ' := by
              intro κ κ' f1 f2
              refine I.frame (fun j hj => ?_) ?_ ?_
              · unfold core at hj
                rw [f2 j (by omega), nU_n _ _ (by omega)]
                exact f1 j (by omega) (by omega) (by omega)
              · rw [f2 0 (by omega), nU_n _ _ (by omega), f1 0 (by omega) (by omega) (by omega)]
              · rw [f2 63 (by omega), nU_s, upd_n _ _ (by omega), f1 63 (by omega) (by omega) (by omega)]
            cases hgs : anyb (fun j => (Bn j).testBit j) 8 with
            | true =>
              have hF : ∀ g, ful aa bb ss T g = false := by
                intro g
                cases q : ful aa bb ss T g with
                | false => rfl
                | true =>
                  obtain ⟨j, j1, j2⟩ := (anyb_iff _ 8).mp hgs
                  exact absurd rfl ((r4.2.1 j j j2).2.2.2.2.2 g q)
              have f1 : FS σ υ := fun j a b c => r5 j a b
              obtain ⟨κ', k1, k2⟩ := M_noneall (y := y) hd hy hF 8 4096 1 _ (by omega) (by omega) (hMC υ (fun j hj => r5 j (by omega) (by omega)))
              simp only [Bool.not_true, bif0, if_true, pb2, show (-4 : Int32) < 0 by decide]
              refine ⟨-4, υ, κ', rfl, ?_, Fin υ κ' f1 k2⟩
              rw [hM0 υ (fun j hj => r5 j (by omega) (by omega)), hMb υ (fun j hj => r5 j (by omega) (by omega)), k1]
            | false =>
              have hLB := LB_of (fun t ht => by obtain ⟨-, -, -, p4⟩ := cells t ht; exact p4) r3 r4 hgs
              have hRB : RB υ R Bn := fun j hj => ⟨(r2 j hj).1, (r3.1 j hj).1, (r3.1 j hj).2, (r2 j hj).2, r4.1 j hj⟩
              obtain ⟨v, υ2, a1, a2, a3⟩ := fewest_sync (y := y) hd hy hLB 8 4096 1 υ (by omega) (by omega) (fun t ht => by
                obtain rfl : t = 0 := by omega
                exact exl_0) hRB
              have f1 : FS σ υ2 := fun j a b c => (a2 j c).trans (r5 j a b)
              have f72 : ∀ j, 72 ≤ j → υ2 j = σ j := fun j hj => f1 j (by omega) (by omega) (by omega)
              simp only [Bool.not_false, bit0, if_false]
              have a1' : fX2_fewest_b13 4096 1 υ = some (v, υ2) := by rw [pl1]; exact a1
              rw [a1', pb2]
              rcases a3 with ⟨w1, w2⟩ | ⟨g, n', w1, w2, w3, w4⟩
              · obtain ⟨κ', k1, k2⟩ := w2 4096 _ (by omega) (hMC υ2 f72)
                rw [w1, if_pos (by decide)]
                refine ⟨-4, υ2, κ', rfl, ?_, Fin υ2 κ' f1 k2⟩
                rw [hM0 υ2 f72, hMb υ2 f72, k1]
              · obtain ⟨r, κ', k1, k2, k3, k4⟩ := w4 4096 _ (by omega) (hMC υ2 f72)
                have hn : ¬ nI n' < 0 := by rw [pneg (by omega)]; simp
                rw [w1, if_neg hn]
                refine ⟨r, υ2, κ', ?_, ?_, Fin υ2 κ' f1 k4⟩
                · by_cases cy : y = -1
                  · rw [if_pos cy, k2 cy]
                  · rcases hy with q | ⟨k, kk1, kk2⟩
                    · exact absurd q cy
                    · rw [if_neg cy, kk2, if_pos (pnd kk1), pcd kk1, w3 k kk1, k3 k kk1 kk2]
                · rw [hM0 υ2 f72, hMb υ2 f72, k1]
          · rw [t1, pb]
            simp only [if_true]
            refine ⟨-13, σ, σ, rfl, ?_, I⟩
            rw [hM0 σ (fun _ _ => rfl)]
            exact ploop (fun n i => fX6_shortest_b40 (n + 1) (nI d) y (nI 0) (nI i) σ) _ m
              (fun n => by rw [(M_tell1 hd hN hv.2.2.1 m1).2 m2, M_b97 (by decide)])
              (fun n i hi => (M_tell1 hd hN hv.2.2.1 (by omega)).1 (m3 i hi)) 4095 0 (by omega) (by omega)
        · have k1 : fX5_tellsSames (29 + 2 * d) σ = some 0 := by
            rw [fX5_tellsSames, hv.2.1, hm3, if_neg (by rw [l0]; exact c3)]
          rw [k1, pb]
          simp only [if_true]
          refine ⟨-13, σ, σ, rfl, ?_, I⟩
          rw [e2, pb, if_pos rfl, hv.2.2.1, hm3, if_neg (by rw [l0]; exact c3), hno _ _ (by decide)]
      · rw [e1, pb]
        simp only [hv0, if_false]
        refine ⟨v, σ, σ, rfl, ?_, I⟩
        rw [e2, pb, if_neg hv0, hno _ _ hv0]
