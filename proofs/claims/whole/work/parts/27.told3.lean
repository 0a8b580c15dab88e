/-! PURE 18: what a thing is, tastes, by told worths -/
def lst (s : Int32) : Int32 := if s = 0 then -128 else if s = 1 then -32768 else -2147483648
theorem M_leastOf (s : Int32) (σ : nS) : fX6_leastOf s σ = some (lst s) := by
  rw [fX6_leastOf, lst]
  split
  · rfl
  · split <;> rfl
theorem C_isSkipped {σ : nS} {d N i : Nat} (hv : RV σ d N) (hi : i < 100) : fX1_isSkipped (29 + 2 * d) (nI i) σ = some (bi (decide (σ 77 (100 * d + i) = lst (σ 75 d)))) := by
  obtain ⟨hN, v4, v76, v3, v75, vc⟩ := hv
  rw [fX1_isSkipped, v3, if_pos (pnin0 (by omega) hi), pc0 (by omega), vc i hi, lst]
  by_cases c : σ 75 d = 0
  · rw [if_pos c, if_pos c]; exact bi_if
  · rw [if_neg c, if_neg c, if_pos (pnin0 (by omega) hi)]
    by_cases c1 : σ 75 d = 1
    · rw [if_pos c1, if_pos c1, fX1_isSkipped_b46]; exact bi_if
    · rw [if_neg c1, if_neg c1, fX1_isSkipped_b46]; exact bi_if
/-- whether the i-th told worth is right, or nothing is told -/
def tok (σ : nS) (d : Nat) (v : Nat → Int32) (i : Nat) : Bool := decide (σ 77 (100 * d + i) = lst (σ 75 d)) || decide (σ 77 (100 * d + i) = v i)
theorem C_isWorth {σ : nS} {d N : Nat} {K F T : Int32} (hv : RV σ d N) : fX5_isWorthAsTold (29 + 2 * d) K F T σ = some (bi (allb (tok σ d (fun i => worth K F T (σ 1 12 + nI i))) N)) := by
  have hv' := hv
  obtain ⟨hN, v4, v76, v3, v75, vc⟩ := hv
  rw [fX5_isWorthAsTold]
  have step : ∀ n i, i < N → tok σ d (fun i => worth K F T (σ 1 12 + nI i)) i = true → fX5_isWorthAsTold_b3 (n + 1) (29 + 2 * d) K F T (nI i) σ = fX5_isWorthAsTold_b3 n (29 + 2 * d) K F T (nI (i + 1)) σ := by
    intro n i hi ht
    have c' : ¬ nI N ≤ nI i := by rw [ple (by omega) (by omega)]; omega
    rw [fX5_isWorthAsTold_b3, v4, if_neg c', C_isSkipped hv' (show i < 100 by omega), pb]
    rw [tok] at ht
    cases e : decide (σ 77 (100 * d + i) = lst (σ 75 d)) with
    | true => simp only [bit0, if_false, pnl, pinc]
    | false =>
      rw [e, Bool.false_or] at ht
      rw [if_pos bi_f, if_pos (pnin0 (by omega) (show i < 100 by omega)), E5_worthOf, pb, pc0 (by omega), vc i (by omega), if_pos (of_decide_eq_true ht), pnl, pinc]
  rcases fstbad (fun i => tok σ d (fun i => worth K F T (σ 1 12 + nI i)) i = true) N with hA | ⟨m, hm, hbad, hA⟩
  · rw [(allb_iff _ N).mpr hA]
    exact ploop (fun n i => fX5_isWorthAsTold_b3 n (29 + 2 * d) K F T (nI i) σ) (some (bi true)) N
      (fun n => by rw [fX5_isWorthAsTold_b3, v4, if_pos (by rw [ple (by omega) (by omega)]; omega)]; rfl)
      (fun n i hi => step n i hi (hA i hi)) 4096 0 (by omega) (by omega)
  · have hbad := eq_false_of_ne_true hbad
    rw [allb_f hm hbad]
    exact ploop (fun n i => fX5_isWorthAsTold_b3 n (29 + 2 * d) K F T (nI i) σ) (some (bi false)) m
      (fun n => by
        have c' : ¬ nI N ≤ nI m := by rw [ple (by omega) (by omega)]; omega
        rw [tok, Bool.or_eq_false_iff] at hbad
        rw [fX5_isWorthAsTold_b3, v4, if_neg c', C_isSkipped hv' (show m < 100 by omega), pb, hbad.1, if_pos bi_f, if_pos (pnin0 (by omega) (show m < 100 by omega)), E5_worthOf, pb, pc0 (by omega), vc m (by omega), if_neg (of_decide_eq_false hbad.2)]
        rfl)
      (fun n i hi => step n i (by omega) (hA i hi)) 4096 0 (by omega) (by omega)
/-- the end of a row that is told: the bit, or none -/
theorem setbit {F : Nat → Bool} {k : Nat} (hk : k < 31) : (if bi (F k) = 0 then nI (bset F k) ||| (0 : Int32) else nI (bset F k) ||| ((1 : Int32) <<< (nI k &&& 31))) = nI (bset F (k + 1)) := by
  cases e : F k with
  | false => rw [if_pos bi_f, por0, pbit0 (by simp [e])]
  | true => rw [if_neg (by simp [bi]), pbit hk e]
def wK (σ : nS) (y : Int32) (g k : Nat) : Int32 := if y = 0 then nI k else σ 64 (4 + 3 * g)
def wF (σ : nS) (y : Int32) (g k : Nat) : Int32 := if y = 0 then σ 64 (4 + 3 * g + 1) else nI k
theorem M_what73 {σ : nS} {s : Int32 → Int32 → Int32 → Int32 → Int32 → Int32 → nS → Option Int32} {d N q g k : Nat} {y : Int32} {F : Nat → Bool} (hd : d < 8) (hv : RV σ d N) (hq : q < 6) (hg : g < 8) (hy : y = 0 ∨ y = 1) (hk : k < 31)
    (hF : F k = allb (tok σ d (fun i => worth (wK σ y g k) (wF σ y g k) (σ 64 (28 + q)) (σ 64 3 + nI i))) N) :
    fX6_whatIs_b73 s 4096 (nI d) (nI q) (nI g) y (nI (bset F k)) (nI k) 1 (nI 0) σ = s (nI d) (nI q) (nI g) y (nI (bset F (k + 1))) (nI (k + 1)) σ := by
  obtain ⟨hN, v4, v76, v3, v75, vc⟩ := hv
  generalize hf : tok σ d (fun i => worth (wK σ y g k) (wF σ y g k) (σ 64 (28 + q)) (σ 64 3 + nI i)) = f at hF
  refine ploop (fun n i => fX6_whatIs_b73 s n (nI d) (nI q) (nI g) y (nI (bset F k)) (nI k) (bi (allb f i)) (nI i) σ) (s (nI d) (nI q) (nI g) y (nI (bset F (k + 1))) (nI (k + 1)) σ) N
    (fun n => ?_) (fun n i hi => ?_) 4096 0 (by omega) (by omega)
  · have c' : nI N ≤ nI N := by rw [ple (by omega) (by omega)]; omega
    rw [fX6_whatIs_b73, if_pos (pnd hd), pcd hd, v76, if_pos c', ← hF]
    have h9 := setbit (F := F) hk
    simp only [pnl, pinc]
    cases e : F k with
    | false => rw [e, if_pos bi_f] at h9; rw [if_pos bi_f, h9]
    | true => rw [e, if_neg (by simp [bi])] at h9; rw [if_neg (by simp [bi]), h9]
  · have c' : ¬ nI N ≤ nI i := by rw [ple (by omega) (by omega)]; omega
    have ef : f i = (decide (σ 77 (100 * d + i) = lst (σ 75 d)) || decide (σ 77 (100 * d + i) = worth (wK σ y g k) (wF σ y g k) (σ 64 (28 + q)) (σ 64 3 + nI i))) := by rw [← hf]; rfl
    have k28 : (28 : Int32) + nI q = nI (28 + q) := p28 q
    have fin : ∀ s3, (fX6_whatIs_b159 s s3 (nI d) (nI q) (nI g) y (nI (bset F k)) (nI k) (nI i) (wF σ y g k) (wK σ y g k) (σ 77 (100 * d + i)) (bi (allb f i)) σ) = if σ 77 (100 * d + i) = worth (wK σ y g k) (wF σ y g k) (σ 64 (28 + q)) (σ 64 3 + nI i) then s3 (nI d) (nI q) (nI g) y (nI (bset F k)) (nI k) (bi (allb f i) &&& 1) (nI (i + 1)) σ else s3 (nI d) (nI q) (nI g) y (nI (bset F k)) (nI k) (bi (allb f i) &&& 0) (nI (i + 1)) σ := by
      intro s3
      rw [fX6_whatIs_b159, k28, if_pos (pnin0 (by omega) (by omega)), E6_worthBy, pb, pc0 (by omega)]
      simp only [pk3, if_true, tc3, pnl, pinc]
    rw [fX6_whatIs_b73, if_pos (pnd hd), pcd hd, v76, if_neg c', if_pos (M_100 hd (by omega)), T_100 hd (by omega), pnl, if_pos (pnd hd), M_leastOf, pb, allb, ef]
    by_cases c : σ 77 (100 * d + i) = lst (σ 75 d)
    · rw [if_pos c, decide_eq_true c]
      simp only [pnl, pinc, pba1, Bool.true_or, Bool.and_true]
    · rw [if_neg c, decide_eq_false c, Bool.false_or]
      have tail : ∀ s3 : Int32 → Int32 → Int32 → Int32 → Int32 → Int32 → Int32 → Int32 → nS → Option Int32, (if σ 77 (100 * d + i) = worth (wK σ y g k) (wF σ y g k) (σ 64 (28 + q)) (σ 64 3 + nI i) then s3 (nI d) (nI q) (nI g) y (nI (bset F k)) (nI k) (bi (allb f i) &&& 1) (nI (i + 1)) σ else s3 (nI d) (nI q) (nI g) y (nI (bset F k)) (nI k) (bi (allb f i) &&& 0) (nI (i + 1)) σ) = (s3 (nI d) (nI q) (nI g) y (nI (bset F k)) (nI k) (bi (allb f i && decide (σ 77 (100 * d + i) = worth (wK σ y g k) (wF σ y g k) (σ 64 (28 + q)) (σ 64 3 + nI i)))) (nI (i + 1)) σ : Option Int32) := by
        intro s3
        by_cases c2 : σ 77 (100 * d + i) = worth (wK σ y g k) (wF σ y g k) (σ 64 (28 + q)) (σ 64 3 + nI i)
        · rw [if_pos c2, decide_eq_true c2, pba1, Bool.and_true]
        · rw [if_neg c2, decide_eq_false c2, pba0, Bool.and_false]
      rcases hy with rfl | rfl
      · have e1 : wK σ 0 g k = nI k := if_pos rfl
        have e2 : wF σ 0 g k = σ 64 (4 + 3 * g + 1) := if_pos rfl
        rw [if_pos rfl, fX6_whatIs_b137, if_neg (by decide)]
        simp (disch := omega) only [pnl, pb, pb2, p43, p344, p28, p66, pa0, pinc, pa2, pa3, pk0, pk1, pk2, pk3, tc0, tc1, tc2, tc3, pnin, pc0, if_pos, if_true, fX6_ofG, fX6_ofL]
        have h9 := fin (fX6_whatIs_b73 s n)
        rw [tail, e1, e2] at h9
        rw [← e2, e2, h9, e1]
      · have e1 : wK σ 1 g k = σ 64 (4 + 3 * g) := if_neg (by decide)
        have e2 : wF σ 1 g k = nI k := if_neg (by decide)
        rw [if_neg (by decide)]
        simp (disch := omega) only [pnl, pb, pb2, p43, p344, p28, p66, pa0, pinc, pa2, pa3, pk0, pk1, pk2, pk3, tc0, tc1, tc2, tc3, pnin, pc0, if_pos, if_true, fX6_ofG, fX6_ofL, fX6_whatIs_b137]
        rw [← e1]
        have h9 := fin (fX6_whatIs_b73 s n)
        rw [tail, e2] at h9
        rw [h9, e2]
theorem C_what82 {σ : nS} {d N q g k n : Nat} {y z : Int32} {F : Nat → Bool} (hd : d < 8) (hv : RV σ d N) (hq : q < 6) (hg : g < 8) (hy : y = 0 ∨ y = 1) (hk : k < 31) (hz : ¬ z ≤ nI k) (a1 : σ (1 + 1) g = σ 64 (4 + 3 * g)) (a2 : σ (1 + 2) g = σ 64 (4 + 3 * g + 1)) (a4 : σ (1 + 4) q = σ 64 (28 + q)) (a3 : σ 1 12 = σ 64 3)
    (hF : F k = allb (tok σ d (fun i => worth (wK σ y g k) (wF σ y g k) (σ 64 (28 + q)) (σ 64 3 + nI i))) N) :
    fX5_whatIs_b82 (n + 1) (nI d) (nI q) (nI g) y (nI (bset F k)) z (nI k) σ = fX5_whatIs_b82 n (nI d) (nI q) (nI g) y (nI (bset F (k + 1))) z (nI (k + 1)) σ := by
  have fin : fX5_whatIs_b129 (fX5_whatIs_b82 n) (nI d) (nI q) (nI g) y (nI (bset F k)) z (nI k) (wK σ y g k) (wF σ y g k) σ = fX5_whatIs_b82 n (nI d) (nI q) (nI g) y (nI (bset F (k + 1))) z (nI (k + 1)) σ := by
    rw [fX5_whatIs_b129, if_pos (pnd hd), pcd hd, if_pos (pnin0 (by omega) hq), pc0 (by omega), a4, C_isWorth hv, pb, a3, ← hF]
    simp only [pnl, pinc]
    cases e : F k with
    | false => rw [if_pos bi_f, pbit0 (by simp [e])]
    | true => rw [if_neg (by simp [bi]), pbit hk e]
  rw [fX5_whatIs_b82, if_neg hz]
  rcases hy with rfl | rfl
  · have e1 : wK σ 0 g k = nI k := if_pos rfl
    have e2 : wF σ 0 g k = σ 64 (4 + 3 * g + 1) := if_pos rfl
    rw [if_pos rfl, fX5_whatIs_b108, if_pos rfl, if_pos (pnin0 (by omega) hg), pc0 (by omega), a2]
    rw [e1, e2] at fin
    exact fin
  · have e1 : wK σ 1 g k = σ 64 (4 + 3 * g) := if_neg (by decide)
    have e2 : wF σ 1 g k = nI k := if_neg (by decide)
    rw [if_neg (by decide), if_pos (pnin0 (by omega) hg), pc0 (by omega), a1, fX5_whatIs_b108, if_neg (by decide)]
    rw [e1, e2] at fin
    exact fin
theorem S_whatIs {σ : nS} (I : Inv σ) (x y u z : Int32) : Sff σ (fX5_whatIs x y u z) (fX6_whatIs x y u z) := by
  obtain ⟨G, P, L, w, hw, hc, h3, h4, hG, hP, hL⟩ := I.1.get
  simp only [Sff, fX5_whatIs, fX6_whatIs, C_isShelf, C_isPerson y hc.2.1 (show P ≤ 8 by omega), M_isPerson y hw.2.2.2.2.1 (show P ≤ 8 by omega), C_isGoods u hc.1 hG, M_isGood u hw.2.2.2.1 hG, pb, M_isIn1]
  cases h2 : decide (nin y P) with
  | false =>
    refine ⟨-1, ?_, by simp only [bif0, if_true]⟩
    cases decide (nin x 8) <;> simp only [bif0, bit0, if_true, if_false]
  | true =>
    simp only [bit0, if_false]
    cases h6 : decide (nin u G) with
    | false =>
      refine ⟨-1, ?_, by simp only [bif0, if_true]⟩
      cases decide (nin x 8) <;> simp only [bif0, bit0, if_true, if_false]
    | true =>
    simp only [bit0, if_false]
    cases h5 : decide (nin z 2) with
    | false =>
      refine ⟨-1, ?_, by simp only [bif0, if_true]⟩
      cases decide (nin x 8) with
      | false => simp only [bif0, if_true]
      | true =>
        simp only [bit0, if_false]
        rcases gfn (n := 1) h5 (by omega) with e | ⟨e, e'⟩
        · simp only [e, if_true]
        · rw [← pl1] at e'
          simp only [e, e', if_false]
    | true =>
      simp only [bit0, if_false]
      have z1 : (z < 0) = False := by rcases gt2 h5 with rfl | rfl <;> simp <;> decide
      have z2 : (z ≤ 1) = True := by rcases gt2 h5 with rfl | rfl <;> simp <;> decide
      simp only [z1, z2, if_false, if_true]
      cases h : decide (nin x 8) with
      | false => refine ⟨-1, by simp only [bif0, if_true], ?_⟩; rw [row_no h, pb]; simp
      | true =>
        obtain ⟨d, hd, rfl⟩ := gtn h (by omega)
        obtain ⟨q, hq, rfl⟩ := gtn h2 (by omega)
        obtain ⟨g, hg, rfl⟩ := gtn h6 (by omega)
        obtain ⟨N, hv⟩ := I.rv hd
        obtain ⟨a1, a2, -⟩ := hc.2.2.2.2.2.1 g hg
        have a4 := hc.2.2.2.2.2.2.1 q hq
        have a3 := hc.2.2.2.2.1
        have hy := gt2 h5
        simp only [bit0, if_false, if_pos (pnd hd), pcd hd]
        rcases row_case I hd with ⟨e, e1, e2⟩ | ⟨v, hv, e1, e2⟩
        · rw [e1, e2, pb, pb]
          simp only [if_true]
          generalize hFF : (fun k => allb (tok σ d (fun i => worth (wK σ z g k) (wF σ z g k) (σ 64 (28 + q)) (σ 64 3 + nI i))) N) = F
          have hF : ∀ k, F k = allb (tok σ d (fun i => worth (wK σ z g k) (wF σ z g k) (σ 64 (28 + q)) (σ 64 3 + nI i))) N := fun k => by rw [← hFF]
          have main : ∀ T, T < 30 → (fX5_whatIs_b82 4096 (nI d) (nI q) (nI g) z (nI (bset F 0)) (nI T) (nI 0) σ = some (nI (bset F T))) := fun T hT =>
            ploop (fun n k => fX5_whatIs_b82 n (nI d) (nI q) (nI g) z (nI (bset F k)) (nI T) (nI k) σ) (some (nI (bset F T))) T
              (fun n => by
                have c' : nI T ≤ nI T := by rw [ple (by omega) (by omega)]; omega
                rw [fX5_whatIs_b82, if_pos c'])
              (fun n k hk => C_what82 hd hv (by omega) (by omega) hy (by omega) (by rw [ple (by omega) (by omega)]; omega) a1 a2 a4 a3 (hF k)) 4096 0 (by omega) (by omega)
          have mainM : ∀ T, T < 30 → (T = if z = 0 then 8 else 10) → (fX6_whatIs_b50 4096 (nI d) (nI q) (nI g) z (nI (bset F 0)) (nI 0) σ = some (nI (bset F T))) := fun T hT eT =>
            ploop (fun n k => fX6_whatIs_b50 n (nI d) (nI q) (nI g) z (nI (bset F k)) (nI k) σ) (some (nI (bset F T))) T
              (fun n => by
                have c' : nI T ≤ nI T := by rw [ple (by omega) (by omega)]; omega
                rw [fX6_whatIs_b50]
                rcases hy with rfl | rfl
                · simp only [if_true] at eT
                  subst eT
                  rw [if_pos rfl, fX6_whatIs_b64, pl8, if_pos c']
                · simp only [show ¬ (1 : Int32) = 0 by decide, if_false] at eT
                  subst eT
                  rw [if_neg (by decide), fX6_whatIs_b64, pl10, if_pos c'])
              (fun n k hk => by
                have c' : ¬ nI T ≤ nI k := by rw [ple (by omega) (by omega)]; omega
                have h73 := M_what73 (s := fX6_whatIs_b50 n) hd hv (show q < 6 by omega) (show g < 8 by omega) hy (show k < 31 by omega) (hF k)
                rw [fX6_whatIs_b50]
                rcases hy with rfl | rfl
                · simp only [if_true] at eT
                  subst eT
                  rw [if_pos rfl, fX6_whatIs_b64, pl8, if_neg c']
                  exact h73
                · simp only [show ¬ (1 : Int32) = 0 by decide, if_false] at eT
                  subst eT
                  rw [if_neg (by decide), fX6_whatIs_b64, pl10, if_neg c']
                  exact h73) 4096 0 (by omega) (by omega)
          rcases hy with rfl | rfl
          · simp only [if_true]
            exact ⟨_, main 8 (by omega), mainM 8 (by omega) rfl⟩
          · simp only [show ¬ (1 : Int32) = 0 by decide, if_false]
            exact ⟨_, main 10 (by omega), mainM 10 (by omega) rfl⟩
        · rw [e1, e2, pb, pb]
          simp only [hv, if_false]
          exact ⟨v, rfl, rfl⟩
