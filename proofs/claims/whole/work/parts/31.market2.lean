/-! PURE 22: markets, means -/
def mkb (r : Nat → Int32) (G p x q : Nat) : Bool := !decide (q = p) && !decide (nI (bset (ownd r q) G) &&& nI (bset (would r p x) G) = 0)
def mkn (r : Nat → Int32) (G p x : Nat) : Nat → Nat
  | 0 => 0
  | q + 1 => if mkb r G p x q = true then mkn r G p x q + 1 else mkn r G p x q
theorem mkn_le (r : Nat → Int32) (G p x : Nat) : ∀ q, mkn r G p x q ≤ q ∧ (p < q → mkn r G p x q + 1 ≤ q) := by
  intro q
  induction q with
  | zero => exact ⟨Nat.le_refl 0, fun h => by omega⟩
  | succ q ih =>
    rw [mkn]
    cases e : mkb r G p x q with
    | false => rw [if_neg (by simp)]; exact ⟨by omega, fun _ => by omega⟩
    | true =>
      rw [if_pos rfl]
      refine ⟨by omega, fun h => ?_⟩
      have hne : ¬ q = p := by
        intro c
        rw [mkb, decide_eq_true c] at e
        simp at e
      have := ih.2 (by omega)
      omega
theorem C_market68 {σ : nS} {G P L p x t : Nat} {pt : Int32} (hw : WF (σ 64) G P L) (hc : CT σ 1 (σ 64) G P L) (hp : p < P) : fX5_market_b68 4096 (nI p) (nI t) pt (nI (bset (would (σ 64) p x) G)) (pw (nI t).toInt64 0) (pw (nI t - 1).toInt64 0) (nI 0) σ = (fX5_partOf (pw (nI t).toInt64 (mkn (σ 64) G p x P) - pw (nI t - 1).toInt64 (mkn (σ 64) G p x P)) (pw (nI t).toInt64 (mkn (σ 64) G p x P)) pt σ) := by
  have hP := hw.2.1
  refine ploop (fun n q => fX5_market_b68 n (nI p) (nI t) pt (nI (bset (would (σ 64) p x) G)) (pw (nI t).toInt64 (mkn (σ 64) G p x q)) (pw (nI t - 1).toInt64 (mkn (σ 64) G p x q)) (nI q) σ) _ P
    (fun n => ?_) (fun n q hq => ?_) 4096 0 (by omega) (by omega)
  · have c' : nI P ≤ nI P := by rw [ple (by omega) (by omega)]; omega
    rw [fX5_market_b68, hc.2.1, if_pos c']
    cases fX5_partOf (pw (nI t).toInt64 (mkn (σ 64) G p x P) - pw (nI t - 1).toInt64 (mkn (σ 64) G p x P)) (pw (nI t).toInt64 (mkn (σ 64) G p x P)) pt σ <;> rfl
  · have c' : ¬ nI P ≤ nI q := by rw [ple (by omega) (by omega)]; omega
    rw [fX5_market_b68, hc.2.1, if_neg c', mkn, mkb]
    by_cases c : q = p
    · rw [if_pos (by rw [c]), decide_eq_true c, pnl, pinc]
      simp only [Bool.not_true, Bool.false_and, Bool.false_eq_true, if_false]
    · rw [if_neg (by rw [peq (by omega) (by omega)]; exact c), decide_eq_false c, C_goodsHad hc hw, pb]
      by_cases c2 : nI (bset (ownd (σ 64) q) G) &&& nI (bset (would (σ 64) p x) G) = 0
      · rw [if_pos c2, decide_eq_true c2, pnl, pinc]
        simp only [Bool.not_true, Bool.and_false, Bool.false_eq_true, if_false]
      · rw [if_neg c2, decide_eq_false c2, pnl, pnl, pnl, pinc]
        simp only [Bool.not_false, Bool.and_true, if_true]
        rfl
theorem M_market57 {σ : nS} {G P L p x t : Nat} {pt : Int32} (hw : WF (σ 64) G P L) (hp : p < P) : fX6_market_b57 4096 (nI p) (nI t) pt (nI (bset (would (σ 64) p x) G)) (pw (nI t - 1).toInt64 0) (pw (nI t).toInt64 0) (nI 0) σ = (fX6_partOf (pw (nI t).toInt64 (mkn (σ 64) G p x P) - pw (nI t - 1).toInt64 (mkn (σ 64) G p x P)) (pw (nI t).toInt64 (mkn (σ 64) G p x P)) pt σ) := by
  have hP := hw.2.1
  refine ploop (fun n q => fX6_market_b57 n (nI p) (nI t) pt (nI (bset (would (σ 64) p x) G)) (pw (nI t - 1).toInt64 (mkn (σ 64) G p x q)) (pw (nI t).toInt64 (mkn (σ 64) G p x q)) (nI q) σ) _ P
    (fun n => ?_) (fun n q hq => ?_) 4096 0 (by omega) (by omega)
  · have c' : nI P ≤ nI P := by rw [ple (by omega) (by omega)]; omega
    rw [fX6_market_b57]
    simp only [pk1, if_true, tc1, hw.2.2.2.2.1, if_pos c']
    cases fX6_partOf (pw (nI t).toInt64 (mkn (σ 64) G p x P) - pw (nI t - 1).toInt64 (mkn (σ 64) G p x P)) (pw (nI t).toInt64 (mkn (σ 64) G p x P)) pt σ <;> rfl
  · have c' : ¬ nI P ≤ nI q := by rw [ple (by omega) (by omega)]; omega
    rw [fX6_market_b57]
    simp only [pk1, if_true, tc1, hw.2.2.2.2.1, if_neg c']
    rw [mkn, mkb]
    by_cases c : q = p
    · rw [if_pos (by rw [c]), decide_eq_true c, pnl, pinc]
      simp only [Bool.not_true, Bool.false_and, Bool.false_eq_true, if_false]
    · rw [if_neg (by rw [peq (by omega) (by omega)]; exact c), decide_eq_false c, M_ownedBy hw, pb]
      by_cases c2 : nI (bset (ownd (σ 64) q) G) &&& nI (bset (would (σ 64) p x) G) = 0
      · rw [if_pos c2, decide_eq_true c2, pnl, pinc]
        simp only [Bool.not_true, Bool.and_false, Bool.false_eq_true, if_false]
      · rw [if_neg c2, decide_eq_false c2, pnl, pnl, pnl, pinc]
        simp only [Bool.not_false, Bool.and_true, if_true]
        rfl
theorem gfb {x : Int32} (h : decide (nin x 2) = false) : (x < 0) = True ∨ ((x < 0) = False ∧ (x ≤ 1) = False) := by
  rcases gfn (n := 1) h (by omega) with e | ⟨e, e'⟩
  · exact Or.inl e
  · rw [← pl1] at e'; exact Or.inr ⟨e, e'⟩
theorem S_market {σ : nS} (I : Inv σ) (x y z u : Int32) : Sll σ (fX5_market x y z u) (fX6_market x y z u) := by
  obtain ⟨G, P, L, w, hw, hc, h3, h4, hG, hP, hL⟩ := I.1.get
  simp only [Sll, fX5_market, fX6_market, C_isPerson x hc.2.1 (show P ≤ 8 by omega), M_isPerson x hw.2.2.2.2.1 (show P ≤ 8 by omega), C_isGoods y hc.1 hG, M_isGood y hw.2.2.2.1 hG, pb, M_isIn z, ti2, ti20, M_isIn1]
  cases h : decide (nin x P) with
  | false => simp only [bif0, if_true]; exact ⟨_, rfl, rfl⟩
  | true =>
    obtain ⟨p, hp, rfl⟩ := gtn h (by omega)
    simp only [bit0, if_false]
    cases h2 : decide (nin y G) with
    | false => simp only [bif0, if_true]; exact ⟨_, rfl, rfl⟩
    | true =>
      obtain ⟨g, hg, rfl⟩ := gtn h2 (by omega)
      simp only [bit0, if_false]
      cases h5 : decide (2 ≤ z.toInt ∧ z.toInt ≤ 20) with
      | false =>
        have h5 := of_decide_eq_false h5
        simp only [bif0, if_true, lt_ti, ti2, ti20]
        refine ⟨1000000001, ?_, rfl⟩
        by_cases c : z.toInt < 2
        · rw [if_pos c]
        · rw [if_neg c, if_pos (by omega)]
      | true =>
        have h5 := of_decide_eq_true h5
        obtain ⟨t, ht, rfl⟩ := pof (x := z) (n := 21) ⟨by omega, by omega⟩ (by omega)
        rw [pti (by omega)] at h5
        have q1 : ¬ nI t < 2 := by rw [pl2, plt (by omega) (by omega)]; omega
        have q2 : ¬ (20 : Int32) < nI t := by rw [lt_ti, ti20, pti (by omega)]; omega
        simp only [bit0, if_false, if_neg q1, if_neg q2]
        cases h6 : decide (nin u 2) with
        | false =>
          simp only [bif0, if_true]
          rcases gfb h6 with e | ⟨e, e'⟩
          · simp only [e, if_true]; exact ⟨_, rfl, rfl⟩
          · simp only [e, e', if_false]; exact ⟨_, rfl, rfl⟩
        | true =>
          obtain ⟨pt, hpt, rfl⟩ := gtn h6 (by omega)
          have q3 : ¬ nI pt < 0 := by rw [pneg (by omega)]; simp
          have q4 : nI pt ≤ 1 := by rw [pl1, ple (by omega) (by omega)]; omega
          simp only [bit0, if_false, if_neg q3, if_pos q4, C_takenFor hc hw hp hg, M_takesOf hw hp hg, pb]
          have k1 := C_market68 (x := g) (t := t) (pt := nI pt) hw hc hp
          have k2 := M_market57 (x := g) (t := t) (pt := nI pt) hw hp
          rw [C_partOf_irr σ σz] at k1
          rw [M_partOf_irr σ σz] at k2
          have hm := (mkn_le (σ 64) G p g P).2 hp
          obtain ⟨v, e1, e2⟩ := oeq_ok (market_tab t ht (by omega) (mkn (σ 64) G p g P) (by omega) pt hpt)
          rw [e1] at k1
          rw [e2] at k2
          exact ⟨v, k1, k2⟩
def smN (r : Nat → Int32) (p : Nat) : Nat → Nat
  | 0 => 0
  | g + 1 => smN r p g + nat (wth r p g)
theorem L_add {a b : Nat} (h : a + b < 2147483648) : (nI a).toInt64 + (nI b).toInt64 = (nI (a + b)).toInt64 := by
  apply Int64.toInt_inj.mp
  rw [Int64.toInt_add, Int32.toInt_toInt64, Int32.toInt_toInt64, Int32.toInt_toInt64, pti (by omega), pti (by omega), pti h]
  have e : ((a + b : Nat) : Int) = (a : Int) + b := by omega
  rw [e]
  exact Int.bmod_eq_of_le (by omega) (by omega)
theorem sm_rng {r : Nat → Int32} {G P L p w : Nat} (hw : WF r G P L) (hp : p < P) (hk : w < 2147483648) (e : r 3 = nI w) : ∀ g, g ≤ G → smN r p g ≤ 63 * g := by
  intro g
  induction g with
  | zero => intro _; exact Nat.le_refl 0
  | succ g ih =>
    intro hg
    obtain ⟨v, hv, ev⟩ := wth_rng hw hp (show g < G by omega) hk e
    have := ih (by omega)
    rw [smN, ev, nat_nI (by omega)]
    omega
theorem S_mean {σ : nS} (I : Inv σ) (x y : Int32) : Sll σ (fX5_mean x y) (fX6_mean x y) := by
  obtain ⟨G, P, L, w, hw, hc, h3, h4, hG, hP, hL⟩ := I.1.get
  simp only [Sll, fX5_mean, fX6_mean, C_isPerson x hc.2.1 (show P ≤ 8 by omega), M_isPerson x hw.2.2.2.2.1 (show P ≤ 8 by omega), pb, M_isIn1]
  cases h : decide (nin x P) with
  | false => simp only [bif0, if_true]; exact ⟨_, rfl, rfl⟩
  | true =>
    obtain ⟨p, hp, rfl⟩ := gtn h (by omega)
    simp only [bit0, if_false]
    cases h6 : decide (nin y 2) with
    | false =>
      simp only [bif0, if_true]
      rcases gfb h6 with e | ⟨e, e'⟩
      · simp only [e, if_true]; exact ⟨_, rfl, rfl⟩
      · simp only [e, e', if_false]; exact ⟨_, rfl, rfl⟩
    | true =>
      obtain ⟨pt, hpt, rfl⟩ := gtn h6 (by omega)
      have q3 : ¬ nI pt < 0 := by rw [pneg (by omega)]; simp
      have q4 : nI pt ≤ 1 := by rw [pl1, ple (by omega) (by omega)]; omega
      simp only [bit0, if_false, if_neg q3, if_pos q4]
      have st : ∀ i, i < G → (nI (smN (σ 64) p i)).toInt64 + (wth (σ 64) p i).toInt64 = (nI (smN (σ 64) p (i + 1))).toInt64 := by
        intro i hi
        obtain ⟨v, hv, ev⟩ := wth_rng hw hp hi (show w < 2147483648 by omega) h3
        have := sm_rng hw hp (show w < 2147483648 by omega) h3 i (by omega)
        rw [smN, ev, nat_nI (by omega), L_add (by omega)]
      have z0 : (nI (smN (σ 64) p 0)).toInt64 = 0 := by simp only [smN]; decide
      have hs := sm_rng hw hp (show w < 2147483648 by omega) h3 G (by omega)
      have k1 : fX5_mean_b29 4096 (nI p) (nI pt) (nI (smN (σ 64) p 0)).toInt64 (nI 0) σ = if nI G ≤ 0 then fX5_mean_b84 (nI pt) 1 (nI (smN (σ 64) p G)).toInt64 σ else fX5_mean_b84 (nI pt) (nI G).toInt64 (nI (smN (σ 64) p G)).toInt64 σ :=
        ploop (fun n i => fX5_mean_b29 n (nI p) (nI pt) (nI (smN (σ 64) p i)).toInt64 (nI i) σ) _ G
          (fun n => by
            have c' : nI G ≤ nI G := by rw [ple (by omega) (by omega)]; omega
            rw [fX5_mean_b29, hc.1, if_pos c'])
          (fun n i hi => by
            have c' : ¬ nI G ≤ nI i := by rw [ple (by omega) (by omega)]; omega
            rw [fX5_mean_b29, hc.1, if_neg c', C_worthTo hc hw hp hi, pb, pnl, pnl, pinc, st i hi]) 4096 0 (by omega) (by omega)
      have k2 : fX6_mean_b26 4096 (nI p) (nI pt) (nI (smN (σ 64) p 0)).toInt64 (nI 0) σ = (fX6_partOf (nI (smN (σ 64) p G)).toInt64 (nI G).toInt64 (nI pt) σ) :=
        ploop (fun n i => fX6_mean_b26 n (nI p) (nI pt) (nI (smN (σ 64) p i)).toInt64 (nI i) σ) _ G
          (fun n => by
            have c' : nI G ≤ nI G := by rw [ple (by omega) (by omega)]; omega
            rw [fX6_mean_b26]
            simp only [pk0, if_true, tc0, hw.2.2.2.1, if_pos c']
            cases fX6_partOf (nI (smN (σ 64) p G)).toInt64 (nI G).toInt64 (nI pt) σ <;> rfl)
          (fun n i hi => by
            have c' : ¬ nI G ≤ nI i := by rw [ple (by omega) (by omega)]; omega
            rw [fX6_mean_b26]
            simp only [pk0, if_true, tc0, hw.2.2.2.1, if_neg c']
            rw [M_worthIn (show p < 6 by omega) (show i < 8 by omega), pb, pnl, pnl, pinc, st i hi]) 4096 0 (by omega) (by omega)
      rw [z0] at k1 k2
      rw [fX5_mean_b84, fX5_mean_b84, C_partOf_irr σ σz, C_partOf_irr σ σz] at k1
      rw [M_partOf_irr σ σz] at k2
      match G, hG, hs, k1, k2 with
      | 0, _, hs, k1, k2 =>
        obtain ⟨v, e1, e2⟩ := oeq_ok (mean_tab0 pt hpt)
        have ez : (nI (smN (σ 64) p 0)).toInt64 = 0 := by simp only [smN]; decide
        rw [if_pos (by decide), ez, e1] at k1
        rw [ez, e2] at k2
        exact ⟨v, k1, k2⟩
      | g + 1, hG, hs, k1, k2 =>
        obtain ⟨v, e1, e2⟩ := oeq_ok (mean_tab g (by omega) (smN (σ 64) p (g + 1)) (by omega) pt hpt)
        rw [if_neg (by rw [pl0, ple (by omega) (by omega)]; omega), e1] at k1
        rw [e2] at k2
        exact ⟨v, k1, k2⟩
