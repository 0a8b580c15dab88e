/-! PURE 16: what rows tell -/
def RV (σ : nS) (d N : Nat) : Prop := N ≤ 100 ∧ σ (29 + 2 * d) 4 = nI N ∧ σ 76 d = nI N ∧ σ (29 + 2 * d) 3 = σ 75 d ∧ nin (σ 75 d) 3 ∧ ∀ i, i < 100 → σ (29 + 2 * d + 1) i = σ 77 (100 * d + i)
theorem Inv.rv {σ : nS} {d : Nat} (I : Inv σ) (hd : d < 8) : ∃ N, RV σ d N := by
  obtain ⟨h1, h2, h3, h4, h5, h6, h7, h8, h9⟩ := I.2.2.2 d hd
  obtain ⟨N, hN, eN⟩ := pof h7 (by omega)
  exact ⟨N, by omega, by rw [h6]; exact eN, eN, h4, h5, h8⟩
theorem fstbad (P : Nat → Prop) : ∀ N, (∀ i, i < N → P i) ∨ ∃ m, m < N ∧ ¬ P m ∧ ∀ i, i < m → P i := by
  intro N
  induction N with
  | zero => exact Or.inl (fun i h => by omega)
  | succ N ih =>
    rcases ih with h | ⟨m, h1, h2, h3⟩
    · by_cases c : P N
      · refine Or.inl (fun i hi => ?_)
        by_cases e : i = N
        · subst e; exact c
        · exact h i (by omega)
      · exact Or.inr ⟨N, by omega, c, h⟩
    · exact Or.inr ⟨m, by omega, h2, h3⟩
def allb (f : Nat → Bool) : Nat → Bool
  | 0 => true
  | n + 1 => allb f n && f n
theorem allb_iff (f : Nat → Bool) : ∀ n, allb f n = true ↔ ∀ i, i < n → f i = true := by
  intro n
  induction n with
  | zero => simp [allb]
  | succ n ih =>
    rw [allb, Bool.and_eq_true, ih]
    constructor
    · intro h i hi
      by_cases e : i = n
      · subst e; exact h.2
      · exact h.1 i (by omega)
    · intro h
      exact ⟨fun i hi => h i (by omega), h n (by omega)⟩
theorem allb_f {f : Nat → Bool} {n m : Nat} (h : m < n) (e : f m = false) : allb f n = false := by
  cases c : allb f n with
  | false => rfl
  | true => rw [(allb_iff f n).mp c m h] at e; cases e
theorem pbi1 (a b : Bool) : bi a &&& bi b = bi (a && b) := by cases a <;> cases b <;> decide
theorem pba1 (a : Bool) : bi a &&& (1 : Int32) = bi a := by cases a <;> decide
theorem pba0 (a : Bool) : bi a &&& (0 : Int32) = bi false := by cases a <;> decide
theorem M_100 {d i : Nat} (hd : d < 8) (hi : i < 100) : nin ((100 : Int32) * nI d + nI i) 800 := by rw [p100i]; exact pnin0 (by omega) (by omega)
theorem T_100 {d i : Nat} (hd : d < 8) (hi : i < 100) : ((100 : Int32) * nI d + nI i).toNatClampNeg = 100 * d + i := by rw [p100i]; exact pc0 (by omega)
theorem pnd {d : Nat} (hd : d < 8) : nin (nI d) 8 := pnin0 (by omega) hd
theorem pcd {d : Nat} (hd : d < 8) : (nI d).toNatClampNeg = d := pc0 (by omega)
theorem would_self (r : Nat → Int32) (q x : Nat) : would r q x x = false := by simp [would]
theorem forged_sync {σ : nS} {G P L d N q : Nat} (hw : WF (σ 64) G P L) (hc : CT σ 1 (σ 64) G P L) (hd : d < 8) (hv : RV σ d N) (hq : q < P) : ∀ n i, (∀ j, j < i → nin (σ 77 (100 * d + j)) G) → i ≤ N → N < n + i →
    ∃ v, fX5_forged_b48 n (nI q) (29 + 2 * d) (nI i) σ = some v ∧ fX6_forged_b26 n (nI d) (nI q) (nI i) σ = some v := by
  obtain ⟨hN, v4, v76, v3, v75, vc⟩ := hv
  have hG := hw.1
  have hP := hw.2.1
  intro n
  induction n with
  | zero => intro i _ h1 h2; omega
  | succ n ih =>
    intro i hA h1 h2
    rw [fX5_forged_b48, fX6_forged_b26, if_pos (pnd hd), pcd hd, v4, v76]
    by_cases c : N ≤ i
    · have c' : nI N ≤ nI i := by rw [ple (by omega) (by omega)]; exact c
      simp only [if_pos c']
      exact ⟨_, rfl, rfl⟩
    · have c' : ¬ nI N ≤ nI i := by rw [ple (by omega) (by omega)]; exact c
      simp only [if_neg c']
      rw [if_pos (pnin0 (by omega) (show i < 100 by omega)), pc0 (by omega), vc i (by omega), if_pos (M_100 hd (by omega)), T_100 hd (by omega), C_isGoods _ hc.1 hG, pb, M_isGood _ hw.2.2.2.1 hG, pb]
      cases h : decide (nin (σ 77 (100 * d + i)) G) with
      | false => simp only [bif0, if_true]; exact ⟨_, rfl, rfl⟩
      | true =>
        simp only [bit0, if_false, pl0, ple (show i < 2147483648 by omega) (show 0 < 2147483648 by omega)]
        have hA' : ∀ j, j < i + 1 → nin (σ 77 (100 * d + j)) G := by
          intro j hj
          by_cases e : j = i
          · subst e; exact of_decide_eq_true h
          · exact hA j (by omega)
        obtain ⟨v, e1, e2⟩ := ih (i + 1) hA' (by omega) (by omega)
        by_cases c0 : i ≤ 0
        · rw [if_pos c0, if_pos c0]
          simp only [pnl, pinc, e1, e2]
          exact ⟨v, rfl, rfl⟩
        · rw [if_neg c0, if_neg c0]
          obtain ⟨y, hy, ey⟩ := pof (of_decide_eq_true h) (by omega)
          obtain ⟨x, hx, ex⟩ := pof (hA (i - 1) (by omega)) (by omega)
          have k1 : (100 : Int32) * nI d + nI i - (1 : Int32) = nI (100 * d + (i - 1)) := by
            rw [p100i, psub1 (by omega)]; congr 1; omega
          rw [psub1 (by omega), if_pos (pnin0 (by omega) (show i - 1 < 100 by omega)), if_pos (pnin0 (by omega) (show i < 100 by omega)), pc0 (show i - 1 < 2147483648 by omega), vc (i - 1) (by omega), k1, if_pos (pnin0 (by omega) (by omega)), if_pos (M_100 hd (by omega)), pc0 (by omega), ex, ey]
          have kx := (hw.2.2.2.2.2.2.1 x hx).1
          have ky := (hw.2.2.2.2.2.2.1 y hy).1
          rw [fX4_isTaken, C_takenFor hc hw hq hx, pb, phas5 σ hG (show y < 8 by omega), pb, if_pos (bi_n _), pb, M_wouldIn (show q < 6 by omega) (show x < 8 by omega) (show y < 8 by omega) kx ky, pb]
          simp only [hy, decide_true, Bool.true_and]
          cases would (σ 64) q x y with
          | false => simp only [← pl0, bif0, if_true]; exact ⟨_, rfl, rfl⟩
          | true => simp only [← pl0, bit0, if_false]; simp only [pnl, pinc, e1, e2]; exact ⟨v, rfl, rfl⟩
theorem S_forged {σ : nS} (I : Inv σ) (x y : Int32) : Sff σ (fX5_forged x y) (fX6_forged x y) := by
  obtain ⟨G, P, L, w, hw, hc, h3, h4, hG, hP, hL⟩ := I.1.get
  simp only [Sff, fX5_forged, fX6_forged, C_isShelf, C_isPerson y hc.2.1 (show P ≤ 8 by omega), M_isPerson y hw.2.2.2.2.1 (show P ≤ 8 by omega), pb]
  cases h2 : decide (nin y P) with
  | false =>
    refine ⟨-1, ?_, by simp only [bif0, if_true]⟩
    cases decide (nin x 8) <;> simp only [bif0, bit0, if_true, if_false]
  | true =>
    simp only [bit0, if_false]
    cases h : decide (nin x 8) with
    | false => refine ⟨-1, by simp only [bif0, if_true], ?_⟩; rw [row_no h, pb]; simp
    | true =>
      obtain ⟨d, hd, rfl⟩ := gtn h (by omega)
      obtain ⟨q, hq, rfl⟩ := gtn h2 (by omega)
      obtain ⟨N, hv⟩ := I.rv hd
      simp only [bit0, if_false, if_pos (pnd hd), pcd hd]
      rcases row_case I hd with ⟨e, e1, e2⟩ | ⟨v, hv, e1, e2⟩
      · rw [e1, e2, pb, pb]
        simp only [if_true]
        exact forged_sync hw hc hd hv hq 4096 0 (fun j hj => by omega) (by omega) (by have := hv.1; omega)
      · rw [e1, e2, pb, pb]
        simp only [hv, if_false]
        exact ⟨v, rfl, rfl⟩
