/-! PURE 19: tastes -/
def tsF (σ : nS) (d N t : Nat) : Bool := allb (tok σ d (fun i => worth (σ 64 (4 + 3 * i)) (σ 64 (4 + 3 * i + 1)) (nI t) (σ 64 3))) N
theorem C_isTaste {σ : nS} {G P L d N t : Nat} (hw : WF (σ 64) G P L) (hc : CT σ 1 (σ 64) G P L) (hv : RV σ d N) (hNG : N ≤ G) : fX5_isTasteAsTold (29 + 2 * d) (nI t) σ = some (bi (tsF σ d N t)) := by
  have hv' := hv
  have hG := hw.1
  have a3 := hc.2.2.2.2.1
  obtain ⟨hN, v4, v76, v3, v75, vc⟩ := hv
  rw [fX5_isTasteAsTold, tsF]
  have step : ∀ n i, i < N → tok σ d (fun i => worth (σ 64 (4 + 3 * i)) (σ 64 (4 + 3 * i + 1)) (nI t) (σ 64 3)) i = true → fX5_isTasteAsTold_b2 (n + 1) (29 + 2 * d) (nI t) (nI i) σ = fX5_isTasteAsTold_b2 n (29 + 2 * d) (nI t) (nI (i + 1)) σ := by
    intro n i hi ht
    have c' : ¬ nI N ≤ nI i := by rw [ple (by omega) (by omega)]; omega
    have c2' : ¬ nI G ≤ nI i := by rw [ple (by omega) (by omega)]; omega
    obtain ⟨b1, b2, -⟩ := hc.2.2.2.2.2.1 i (by omega)
    rw [fX5_isTasteAsTold_b2, v4, if_neg c', hc.1, if_neg c2', C_isSkipped hv' (show i < 100 by omega), pb]
    rw [tok] at ht
    cases e : decide (σ 77 (100 * d + i) = lst (σ 75 d)) with
    | true => simp only [bit0, if_false, pnl, pinc]
    | false =>
      rw [e, Bool.false_or] at ht
      rw [if_pos bi_f, if_pos (pnin0 (by omega) (show i < 100 by omega)), if_pos (pnd (by omega)), if_pos (pnd (by omega)), E5_worthOf, pb, pc0 (by omega), vc i (by omega), b1, b2, a3, if_pos (of_decide_eq_true ht), pnl, pinc]
  rcases fstbad (fun i => tok σ d (fun i => worth (σ 64 (4 + 3 * i)) (σ 64 (4 + 3 * i + 1)) (nI t) (σ 64 3)) i = true) N with hA | ⟨m, hm, hbad, hA⟩
  · rw [(allb_iff _ N).mpr hA]
    exact ploop (fun n i => fX5_isTasteAsTold_b2 n (29 + 2 * d) (nI t) (nI i) σ) (some (bi true)) N
      (fun n => by rw [fX5_isTasteAsTold_b2, v4, if_pos (by rw [ple (by omega) (by omega)]; omega)]; rfl)
      (fun n i hi => step n i hi (hA i hi)) 4096 0 (by omega) (by omega)
  · have hbad := eq_false_of_ne_true hbad
    rw [allb_f hm hbad]
    exact ploop (fun n i => fX5_isTasteAsTold_b2 n (29 + 2 * d) (nI t) (nI i) σ) (some (bi false)) m
      (fun n => by
        have c' : ¬ nI N ≤ nI m := by rw [ple (by omega) (by omega)]; omega
        have c2' : ¬ nI G ≤ nI m := by rw [ple (by omega) (by omega)]; omega
        obtain ⟨b1, b2, -⟩ := hc.2.2.2.2.2.1 m (by omega)
        rw [tok, Bool.or_eq_false_iff] at hbad
        rw [fX5_isTasteAsTold_b2, v4, if_neg c', hc.1, if_neg c2', C_isSkipped hv' (show m < 100 by omega), pb, hbad.1, if_pos bi_f, if_pos (pnin0 (by omega) (show m < 100 by omega)), if_pos (pnd (by omega)), if_pos (pnd (by omega)), E5_worthOf, pb, pc0 (by omega), vc m (by omega), b1, b2, a3, if_neg (of_decide_eq_false hbad.2)]
        rfl)
      (fun n i hi => step n i (by omega) (hA i hi)) 4096 0 (by omega) (by omega)
theorem M_tastes86 {σ τ : nS} {s : Int32 → Int32 → Int32 → Int32 → nS → Option (Int32 × nS)} {G P L d N q t : Nat} {F : Nat → Bool} (hw : WF (σ 64) G P L) (hd : d < 8) (hv : RV σ d N) (hNG : N ≤ G) (hq : q < 6) (ht : t < 10) (f : ∀ j, j ≠ 65 → τ j = σ j) (f5 : ∀ j, j < 74 → j ≠ 28 + q → τ 65 j = σ 64 j) (f6 : τ 65 (28 + q) = nI t)
    (hF : F t = tsF σ d N t) :
    fX6_tastes_b86 s 4096 (nI d) (nI q) (nI (bset F t)) (nI t) 1 (nI 0) τ = s (nI d) (nI q) (nI (bset F (t + 1))) (nI (t + 1)) τ := by
  obtain ⟨hN, v4, v76, v3, v75, vc⟩ := hv
  have hG := hw.1
  rw [tsF] at hF
  generalize hf : tok σ d (fun i => worth (σ 64 (4 + 3 * i)) (σ 64 (4 + 3 * i + 1)) (nI t) (σ 64 3)) = g at hF
  refine ploop (fun n i => fX6_tastes_b86 s n (nI d) (nI q) (nI (bset F t)) (nI t) (bi (allb g i)) (nI i) τ) (s (nI d) (nI q) (nI (bset F (t + 1))) (nI (t + 1)) τ) N
    (fun n => ?_) (fun n i hi => ?_) 4096 0 (by omega) (by omega)
  · have c' : nI N ≤ nI N := by rw [ple (by omega) (by omega)]; omega
    rw [fX6_tastes_b86, if_pos (pnd hd), pcd hd, f 76 (by omega), v76, if_pos c', ← hF]
    have h9 := setbit (F := F) (show t < 31 by omega)
    simp only [pnl, pinc]
    cases e : F t with
    | false => rw [e, if_pos bi_f] at h9; rw [if_pos bi_f, h9]
    | true => rw [e, if_neg (by simp [bi])] at h9; rw [if_neg (by simp [bi]), h9]
  · have c' : ¬ nI N ≤ nI i := by rw [ple (by omega) (by omega)]; omega
    have ef : g i = (decide (σ 77 (100 * d + i) = lst (σ 75 d)) || decide (σ 77 (100 * d + i) = worth (σ 64 (4 + 3 * i)) (σ 64 (4 + 3 * i + 1)) (nI t) (σ 64 3))) := by rw [← hf]; rfl
    have ew : wth (τ 65) q i = worth (σ 64 (4 + 3 * i)) (σ 64 (4 + 3 * i + 1)) (nI t) (σ 64 3) := by
      rw [wth, f6, f5 _ (by omega) (by omega), f5 _ (by omega) (by omega), f5 3 (by omega) (by omega)]
    rw [fX6_tastes_b86, if_pos (pnd hd), pcd hd, f 76 (by omega), v76, if_neg c', if_pos (M_100 hd (by omega)), if_pos (pnd hd), M_leastOf, pb, f 75 (by omega), f 77 (by omega), T_100 hd (by omega), allb, ef]
    by_cases c : σ 77 (100 * d + i) = lst (σ 75 d)
    · rw [if_pos c, decide_eq_true c]
      simp only [pnl, pinc, pba1, Bool.true_or, Bool.and_true]
    · rw [if_neg c, decide_eq_false c, Bool.false_or, if_pos (M_100 hd (by omega)), M_worthIn hq (show i < 8 by omega), pb, ew]
      by_cases c2 : σ 77 (100 * d + i) = worth (σ 64 (4 + 3 * i)) (σ 64 (4 + 3 * i + 1)) (nI t) (σ 64 3)
      · rw [if_pos c2, decide_eq_true c2]
        simp only [pnl, pinc, pba1, Bool.and_true]
      · rw [if_neg c2, decide_eq_false c2]
        simp only [pnl, pinc, pba0, Bool.and_false]
theorem S_tastes {σ : nS} (I : Inv σ) (x y : Int32) : Sfe σ (fX5_tastes x y) (fX6_tastes x y) := by
  obtain ⟨G, P, L, w, hw, hc, h3, h4, hG, hP, hL⟩ := I.1.get
  simp only [Sfe, fX5_tastes, fX6_tastes, C_isShelf, C_isPerson y hc.2.1 (show P ≤ 8 by omega), M_isPerson y hw.2.2.2.2.1 (show P ≤ 8 by omega), pb]
  cases h2 : decide (nin y P) with
  | false =>
    refine ⟨-1, σ, ?_, by simp only [bif0, if_true], I⟩
    cases decide (nin x 8) <;> simp only [bif0, bit0, if_true, if_false]
  | true =>
    simp only [bit0, if_false]
    have hb : ∀ v, ¬ v = 0 → fX6_tastes_b39 x y v σ = some (v, σ) := fun v hv => by
      rw [fX6_tastes_b39, if_neg hv]
    cases h : decide (nin x 8) with
    | false => refine ⟨-1, σ, by simp only [bif0, if_true], ?_, I⟩; rw [row_no h, pb, if_neg (by decide), hb _ (by decide)]
    | true =>
      obtain ⟨d, hd, rfl⟩ := gtn h (by omega)
      obtain ⟨q, hq, rfl⟩ := gtn h2 (by omega)
      obtain ⟨N, hv⟩ := I.rv hd
      have hv' := hv
      obtain ⟨hN, v4, v76, v3, v75, vc⟩ := hv
      simp only [bit0, if_false, if_pos (pnd hd), pcd hd]
      rcases row_case I hd with ⟨e, e1, e2⟩ | ⟨v, hv, e1, e2⟩
      · rw [e1, e2, pb, pb]
        simp only [if_true, pk0, tc0, hw.2.2.2.1, v76, v4, hc.1, ple (show N < 2147483648 by omega) (show G < 2147483648 by omega)]
        by_cases c : N ≤ G
        · simp only [if_pos c]
          generalize hFF : tsF σ d N = F
          have b28 : nin ((28 : Int32) + nI q) 74 := by rw [p28]; exact pnin0 (by omega) (by omega)
          have t28 : ((28 : Int32) + nI q).toNatClampNeg = 28 + q := by rw [p28]; exact pc0 (by omega)
          have k1 : fX5_tastes_b65 4096 (nI d) (nI (bset F 0)) (nI 0) σ = some (nI (bset F 10)) :=
            ploop (fun n t => fX5_tastes_b65 n (nI d) (nI (bset F t)) (nI t) σ) _ 10
              (fun n => by rw [fX5_tastes_b65, if_pos (by decide)])
              (fun n t ht => by
                have c' : ¬ (10 : Int32) ≤ nI t := by rw [pl10, ple (by omega) (by omega)]; omega
                rw [fX5_tastes_b65, if_neg c', if_pos (pnd hd), pcd hd, C_isTaste hw hc hv' c, pb, hFF]
                simp only [pnl, pinc]
                cases e : F t with
                | false => rw [if_pos bi_f, pbit0 (by simp [e])]
                | true => rw [if_neg (by simp [bi]), pbit (by omega) e]) 4096 0 (by omega) (by omega)
          have k2 : ∃ υ, fX6_tastes_b62 4096 (nI d) (nI q) (nI (bset F 0)) (nI 0) (nU σ 65 (cpR (σ 64) (σ 65))) = some (nI (bset F 10), υ) ∧ ∀ j, j ≠ 65 → υ j = σ j := by
            refine ploopS (fun n t τ => fX6_tastes_b62 n (nI d) (nI q) (nI (bset F t)) (nI t) τ) (fun t τ => (∀ j, j ≠ 65 → τ j = σ j) ∧ ∀ j, j < 74 → j ≠ 28 + q → τ 65 j = σ 64 j) (fun o => ∃ υ, o = some (nI (bset F 10), υ) ∧ ∀ j, j ≠ 65 → υ j = σ j) 10
              (fun n τ hI => ?_) (fun n t τ ht hI hk => ?_) 4096 0 _ (by omega) (by omega) ⟨fun j hj => nU_n _ _ hj, fun j h1 h2 => by rw [nU_s, cpR_e _ _ _ h1]⟩
            · rw [fX6_tastes_b62, if_pos (by decide)]
              exact ⟨τ, rfl, hI.1⟩
            · have c' : ¬ (10 : Int32) ≤ nI t := by rw [pl10, ple (by omega) (by omega)]; omega
              rw [fX6_tastes_b62, if_neg c', if_pos b28, pnl, t28]
              have hI' : (∀ j, j ≠ 65 → (nU τ 65 (upd (τ 65) (28 + q) (nI t))) j = σ j) ∧ ∀ j, j < 74 → j ≠ 28 + q → (nU τ 65 (upd (τ 65) (28 + q) (nI t))) 65 j = σ 64 j :=
                ⟨fun j hj => by rw [nU_n _ _ hj]; exact hI.1 j hj, fun j h1 h2 => by rw [nU_s, upd_n _ _ h2]; exact hI.2 j h1 h2⟩
              rw [pl0, M_tastes86 (F := F) hw hd hv' c (show q < 6 by omega) ht hI'.1 hI'.2 (by rw [nU_s, upd_s]) (by rw [hFF])]
              exact hk _ hI'
          obtain ⟨υ, k2, k3⟩ := k2
          refine ⟨nI (bset F 10), υ, k1, ?_, I.mind Fr.rf k3⟩
          rw [fX6_tastes_b39, if_pos rfl, M_copies (by omega), pb2]
          exact k2
        · simp only [if_neg c]
          exact ⟨-13, σ, rfl, hb _ (by decide), I⟩
      · rw [e1, e2, pb, pb]
        simp only [hv, if_false]
        exact ⟨v, σ, rfl, hb v hv, I⟩
