/-! PURE 17: what was lent by what was paid -/
def tkN (A : Nat → Nat) : Nat → Nat
  | 0 => 0
  | n + 1 => tkN A n ||| 2 ^ A n
theorem tkN_bit (A : Nat → Nat) (j : Nat) : ∀ n, (tkN A n).testBit j = true ↔ ∃ i, i < n ∧ A i = j := by
  intro n
  induction n with
  | zero => simp [tkN]
  | succ n ih =>
    rw [tkN, Nat.testBit_or, Nat.testBit_two_pow, Bool.or_eq_true, ih, decide_eq_true_eq]
    constructor
    · rintro (⟨i, h1, h2⟩ | h)
      · exact ⟨i, by omega, h2⟩
      · exact ⟨n, by omega, h⟩
    · rintro ⟨i, h1, h2⟩
      by_cases e : i = n
      · subst e; exact Or.inr h2
      · exact Or.inl ⟨i, by omega, h2⟩
theorem tkN_lt {A : Nat → Nat} {N : Nat} (h : ∀ i, i < N → A i < 8) : ∀ n, n ≤ N → tkN A n < 256 := by
  intro n
  induction n with
  | zero => intro _; simp [tkN]
  | succ n ih =>
    intro hn
    exact Nat.or_lt_two_pow (n := 8) (ih (by omega)) (Nat.pow_lt_pow_right (by omega) (h n (by omega)))
theorem tkN_sub (S : Nat) (A : Nat → Nat) (n : Nat) : (S &&& tkN A n = tkN A n) ↔ ∀ i, i < n → S.testBit (A i) = true := by
  constructor
  · intro h i hi
    have h1 : (tkN A n).testBit (A i) = true := (tkN_bit A _ n).mpr ⟨i, hi, rfl⟩
    rw [← h, Nat.testBit_and, Bool.and_eq_true] at h1
    exact h1.1
  · intro h
    apply Nat.eq_of_testBit_eq
    intro j
    rw [Nat.testBit_and]
    cases e : (tkN A n).testBit j with
    | false => simp
    | true =>
      obtain ⟨i, h1, h2⟩ := (tkN_bit A j n).mp e
      rw [← h2, h i h1]
      rfl
def el (σ : nS) (d i : Nat) : Nat := nat (σ 77 (100 * d + i))
theorem lent_sub {r : Nat → Int32} {G q x N : Nat} {A : Nat → Nat} (hG : G ≤ 8) (hA : ∀ i, i < N → A i < G) : (nI (bset (would r q x) G) &&& nI (tkN A N) = nI (tkN A N)) = (allb (fun i => would r q x (A i)) N = true) := by
  have h1 := bset_lt (would r q x) G
  have h2 : 2 ^ G ≤ 2 ^ 8 := Nat.pow_le_pow_right (by omega) hG
  have h3 := tkN_lt (A := A) (N := N) (fun i hi => by have := hA i hi; omega) N (Nat.le_refl N)
  have h4 : bset (would r q x) G &&& tkN A N < 256 := Nat.lt_of_le_of_lt Nat.and_le_right h3
  rw [pand, peq (by omega) (by omega)]
  apply propext
  rw [tkN_sub, allb_iff]
  constructor
  · intro h i hi
    have := h i hi
    rw [bset_bit, Bool.and_eq_true] at this
    exact this.2
  · intro h i hi
    rw [bset_bit, h i hi]
    simp [hA i hi]
theorem M_lent106 {σ : nS} {s : Int32 → Int32 → Int32 → Int32 → Int32 → nS → Option Int32} {G P L d N q x : Nat} {F : Nat → Bool} {z : Int32} (hw : WF (σ 64) G P L) (hd : d < 8) (hv : RV σ d N) (hq : q < P) (hx : x < G) (hA : ∀ i, i < N → nin (σ 77 (100 * d + i)) G) (hF : F x = allb (fun i => would (σ 64) q x (el σ d i)) N) :
    fX6_lent_b106 s 4096 (nI d) (nI q) z (nI (bset F x)) (nI x) 1 (nI 0) σ = s (nI d) (nI q) z (nI (bset F (x + 1))) (nI (x + 1)) σ := by
  obtain ⟨hN, v4, v76, v3, v75, vc⟩ := hv
  have hG := hw.1
  have hP := hw.2.1
  have kx := (hw.2.2.2.2.2.2.1 x hx).1
  refine ploop (fun n i => fX6_lent_b106 s n (nI d) (nI q) z (nI (bset F x)) (nI x) (bi (allb (fun i => would (σ 64) q x (el σ d i)) i)) (nI i) σ) (s (nI d) (nI q) z (nI (bset F (x + 1))) (nI (x + 1)) σ) N
    (fun n => ?_) (fun n i hi => ?_) 4096 0 (by omega) (by omega)
  · have c' : nI N ≤ nI N := by rw [ple (by omega) (by omega)]; omega
    rw [fX6_lent_b106, if_pos (pnd hd), pcd hd, v76, if_pos c', ← hF]
    simp only [pnl, bi0, pinc, por0]
    cases e : F x with
    | false => rw [if_pos rfl, pbit0 (by simp [e])]
    | true => rw [if_neg (by simp), pbit (by omega) e]
  · have c' : ¬ nI N ≤ nI i := by rw [ple (by omega) (by omega)]; omega
    obtain ⟨y, hy, ey⟩ := pof (hA i hi) (by omega)
    have ky := (hw.2.2.2.2.2.2.1 y hy).1
    have ee : el σ d i = y := by rw [el, ey, nat_nI (by omega)]
    rw [fX6_lent_b106, if_pos (pnd hd), pcd hd, v76, if_neg c', if_pos (M_100 hd (by omega)), T_100 hd (by omega), ey, allb, ee]
    by_cases c : y = x
    · subst c
      rw [if_pos rfl, would_self, Bool.and_false]
      simp only [pnl, pinc, pba0]
    · rw [if_neg (by rw [peq (by omega) (by omega)]; exact c), if_pos (M_100 hd (by omega)), M_wouldIn (show q < 6 by omega) (show x < 8 by omega) (show y < 8 by omega) kx ky, pb]
      cases would (σ 64) q x y with
      | false => simp only [bif0, if_true, pnl, pinc, pba0, Bool.and_false]
      | true => simp only [bit0, if_false, pnl, pinc, pba1, Bool.and_true]
theorem S_lent {σ : nS} (I : Inv σ) (x y z : Int32) : Sff σ (fX5_lent x y z) (fX6_lent x y z) := by
  obtain ⟨G, P, L, w, hw, hc, h3, h4, hG, hP, hL⟩ := I.1.get
  simp only [Sff, fX5_lent, fX6_lent, C_isShelf, C_isPerson y hc.2.1 (show P ≤ 8 by omega), M_isPerson y hw.2.2.2.2.1 (show P ≤ 8 by omega), pb, M_isIn1]
  cases h2 : decide (nin y P) with
  | false =>
    refine ⟨-1, ?_, by simp only [bif0, if_true]⟩
    cases decide (nin x 8) <;> simp only [bif0, bit0, if_true, if_false]
  | true =>
    simp only [bit0, if_false]
    cases h5 : decide (nin z 2) with
    | false =>
      refine ⟨-1, ?_, by simp only [bif0, if_true]⟩
      cases decide (nin x 8) with
      | false => simp only [bif0, if_true]
      | true =>
        simp only [bit0, if_false]
        rcases gfn (n := 1) h5 (by omega) with e | ⟨e, e'⟩
        · simp only [e, if_true]
        · rw [← pl1] at e'
          simp only [e, e', if_false]
    | true =>
      simp only [bit0, if_false]
      have z1 : (z < 0) = False := by rcases gt2 h5 with rfl | rfl <;> simp <;> decide
      have z2 : (z ≤ 1) = True := by rcases gt2 h5 with rfl | rfl <;> simp <;> decide
      simp only [z1, z2, if_false, if_true]
      have hb : ∀ v, ¬ v = 0 → fX6_lent_b30 4096 x y z v (0 : Int32) σ = some v := fun v hv => by
        rw [fX6_lent_b30, if_neg hv, fX6_lent_b75, if_neg hv]
      cases h : decide (nin x 8) with
      | false => refine ⟨-1, by simp only [bif0, if_true], ?_⟩; rw [row_no h, pb, hb _ (by decide)]
      | true =>
        obtain ⟨d, hd, rfl⟩ := gtn h (by omega)
        obtain ⟨q, hq, rfl⟩ := gtn h2 (by omega)
        obtain ⟨N, hv⟩ := I.rv hd
        have hv' := hv
        obtain ⟨hN, v4, v76, v3, v75, vc⟩ := hv
        simp only [bit0, if_false, if_pos (pnd hd), pcd hd]
        rcases row_case I hd with ⟨e, e1, e2⟩ | ⟨v, hv, e1, e2⟩
        · rw [e1, e2, pb, pb]
          simp only [if_true]
          rcases fstbad (fun i => nin (σ 77 (100 * d + i)) G) N with hA | ⟨m, hm, hbad, hA⟩
          · have k1 : fX5_tellsGoods (29 + 2 * d) σ = some 1 := by
              rw [fX5_tellsGoods]
              exact ploop (fun n i => fX5_tellsGoods_b2 n (29 + 2 * d) (nI i) σ) (some 1) N
                (fun n => by simp (disch := omega) only [fX5_tellsGoods_b2, v4, ple, Nat.le_refl, if_true])
                (fun n i hi => by
                  simp (disch := omega) only [fX5_tellsGoods_b2, v4, ple, if_neg, pnl, pb, pb2, pinc, pnin, pc0, if_pos, if_true, vc i (show i < 100 by omega), C_isGoods _ hc.1 hG, decide_eq_true (hA i hi), bit0, if_false]) 4096 0 (by omega) (by omega)
            have hA' : ∀ i, i < N → σ 77 (100 * d + i) = nI (el σ d i) ∧ el σ d i < G := fun i hi => ⟨(nin_n (hA i hi) (by omega)).2, (nin_n (hA i hi) (by omega)).1⟩
            have k2 : fX5_bitsOf (29 + 2 * d) σ = some (nI (tkN (el σ d) N)) := by
              rw [fX5_bitsOf]
              exact ploop (fun n i => fX5_bitsOf_b4 n (29 + 2 * d) (nI (tkN (el σ d) i)) (nI i) σ) (some (nI (tkN (el σ d) N))) N
                (fun n => by simp (disch := omega) only [fX5_bitsOf_b4, v4, ple, Nat.le_refl, if_true])
                (fun n i hi => by
                  have := (hA' i hi).2
                  simp (disch := omega) only [fX5_bitsOf_b4, v4, ple, if_neg, pnl, pb, pb2, pinc, pnin, pc0, if_pos, if_true, vc i (show i < 100 by omega), (hA' i hi).1, pshl, por, tkN]) 4096 0 (by omega) (by omega)
            have m1 : fX6_lent_b30 4096 (nI d) (nI q) z (nI 0) (nI 0) σ = fX6_lent_b89 4096 (nI d) (nI q) z (nI 0) (nI 0) σ :=
              ploop (fun n i => fX6_lent_b30 n (nI d) (nI q) z (nI 0) (nI i) σ) (fX6_lent_b89 4096 (nI d) (nI q) z (nI 0) (nI 0) σ) N
                (fun n => by
                  have c' : nI N ≤ nI N := by rw [ple (by omega) (by omega)]; omega
                  rw [fX6_lent_b30, if_pos pl0.symm, if_pos (pnd hd), pcd hd, v76, if_pos c', fX6_lent_b75, if_pos pl0.symm]; rfl)
                (fun n i hi => by
                  have c' : ¬ nI N ≤ nI i := by rw [ple (by omega) (by omega)]; omega
                  rw [fX6_lent_b30, if_pos pl0.symm, if_pos (pnd hd), pcd hd, v76, if_neg c', if_pos (M_100 hd (by omega)), T_100 hd (by omega), M_isGood _ hw.2.2.2.1 hG, decide_eq_true (hA i hi), pb]
                  simp only [bit0, if_false, pnl, pinc]) 4096 0 (by omega) (by omega)
            rw [k1, pb, k2]
            simp only [show ¬ (1 : Int32) = 0 by decide, if_false, pb]
            rw [pl0, m1]
            have hsub : ∀ i, i < N → el σ d i < G := fun i hi => (hA' i hi).2
            generalize hF : (fun x => allb (fun i => would (σ 64) q x (el σ d i)) N) = F
            have eF : ∀ x, F x = allb (fun i => would (σ 64) q x (el σ d i)) N := fun x => by rw [← hF]
            have b1 := bset_lt F G
            have b2 : 2 ^ G ≤ 2 ^ 8 := Nat.pow_le_pow_right (by omega) hG
            refine ⟨if z = 0 then nI (bset F G) else cnt (bset F G), ?_, ?_⟩
            · exact ploop (fun n i => fX5_lent_b82 n (nI q) z (nI (tkN (el σ d) N)) (nI (bset F i)) (nI i) σ) _ G
                (fun n => by
                  simp (disch := omega) only [fX5_lent_b82, hc.1, ple, Nat.le_refl, if_true, pcntJ, pb]
                  split <;> rfl)
                (fun n i hi => by
                  have c' : ¬ nI G ≤ nI i := by rw [ple (by omega) (by omega)]; omega
                  rw [fX5_lent_b82, hc.1, if_neg c', C_takenFor hc hw hq hi, pb]
                  simp only [lent_sub hG hsub, ← eF i, pnl, pinc]
                  cases e : F i with
                  | false => rw [if_neg (by simp), pbit0 (by simp [e])]
                  | true => rw [if_pos rfl, pbit (by omega) e]) 4096 0 (by omega) (by omega)
            · exact ploop (fun n i => fX6_lent_b89 n (nI d) (nI q) z (nI (bset F i)) (nI i) σ) _ G
                (fun n => by
                  simp (disch := omega) only [fX6_lent_b89, pk0, if_true, tc0, hw.2.2.2.1, ple, Nat.le_refl, pcnt6 σ (show bset F G < 256 by omega), pb]
                  split <;> rfl)
                (fun n i hi => by
                  have c' : ¬ nI G ≤ nI i := by rw [ple (by omega) (by omega)]; omega
                  rw [fX6_lent_b89]
                  simp only [pk0, if_true, tc0, hw.2.2.2.1, if_neg c']
                  rw [pl0, M_lent106 hw hd hv' hq hi hA (eF i)]) 4096 0 (by omega) (by omega)
          · have k1 : fX5_tellsGoods (29 + 2 * d) σ = some 0 := by
              rw [fX5_tellsGoods]
              exact ploop (fun n i => fX5_tellsGoods_b2 n (29 + 2 * d) (nI i) σ) (some 0) m
                (fun n => by
                  simp (disch := omega) only [fX5_tellsGoods_b2, v4, ple, if_neg, pnl, pb, pb2, pinc, pnin, pc0, if_pos, if_true, vc m (show m < 100 by omega), C_isGoods _ hc.1 hG, decide_eq_false hbad, bif0])
                (fun n i hi => by
                  simp (disch := omega) only [fX5_tellsGoods_b2, v4, ple, if_neg, pnl, pb, pb2, pinc, pnin, pc0, if_pos, if_true, vc i (show i < 100 by omega), C_isGoods _ hc.1 hG, decide_eq_true (hA i hi), bit0, if_false]) 4096 0 (by omega) (by omega)
            have m1 : fX6_lent_b30 (4095 + 1) (nI d) (nI q) z (nI 0) (nI 0) σ = some (-13) :=
              ploop (fun n i => fX6_lent_b30 (n + 1) (nI d) (nI q) z (nI 0) (nI i) σ) (some (-13)) m
                (fun n => by
                  have c' : ¬ nI N ≤ nI m := by rw [ple (by omega) (by omega)]; omega
                  rw [fX6_lent_b30, if_pos pl0.symm, if_pos (pnd hd), pcd hd, v76, if_neg c', if_pos (M_100 hd (by omega)), T_100 hd (by omega), M_isGood _ hw.2.2.2.1 hG, decide_eq_false hbad, pb]
                  simp only [bif0, if_true, pnl, pinc]
                  rw [fX6_lent_b30, if_neg (by decide), fX6_lent_b75, if_neg (by decide)])
                (fun n i hi => by
                  have c' : ¬ nI N ≤ nI i := by rw [ple (by omega) (by omega)]; omega
                  rw [fX6_lent_b30, if_pos pl0.symm, if_pos (pnd hd), pcd hd, v76, if_neg c', if_pos (M_100 hd (by omega)), T_100 hd (by omega), M_isGood _ hw.2.2.2.1 hG, decide_eq_true (hA i hi), pb]
                  simp only [bit0, if_false, pnl, pinc]) 4095 0 (by omega) (by omega)
            rw [k1, pb]
            simp only [if_true]
            exact ⟨-13, rfl, m1⟩
        · rw [e1, e2, pb, pb]
          simp only [hv, if_false]
          exact ⟨v, rfl, hb v hv⟩
