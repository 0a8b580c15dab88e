/-! PURE 6: what holds between the calls -/
def TN (σ : nS) (k m : Nat) : Prop := ∃ G P L w : Nat, WF (σ m) G P L ∧ CT σ k (σ m) G P L ∧ σ m 3 = nI w ∧ w < 1000
def SH (σ : nS) (d : Nat) : Prop :=
  σ (29 + 2 * d) 0 = σ 72 d ∧ (σ 72 d = 0 ∨ σ 72 d = 1 ∨ σ 72 d = 2) ∧
  (σ 72 d = 1 → σ (29 + 2 * d) 1 = σ 73 d ∧ σ (29 + 2 * d) 2 = σ 74 d ∧ nin (σ 73 d) 8 ∧ nin (σ 74 d) 10) ∧
  σ (29 + 2 * d) 3 = σ 75 d ∧ nin (σ 75 d) 3 ∧ σ (29 + 2 * d) 4 = σ 76 d ∧ nin (σ 76 d) 101 ∧
  (∀ i, i < 100 → σ (29 + 2 * d + 1) i = σ 77 (100 * d + i)) ∧
  (σ 75 d = 0 → ∀ i, i < 100 → -128 ≤ (σ 77 (100 * d + i)).toInt ∧ (σ 77 (100 * d + i)).toInt < 128)
def Inv (σ : nS) : Prop := TN σ 1 64 ∧ σ 0 3 = σ 63 4 ∧ (σ 0 3 = 0 ∨ (σ 0 3 = 1 ∧ TN σ 19 66)) ∧ ∀ d, d < 8 → SH σ d
def core (j : Nat) : Prop := (1 ≤ j ∧ j ≤ 9) ∨ (19 ≤ j ∧ j ≤ 27) ∨ (29 ≤ j ∧ j ≤ 44) ∨ j = 64 ∨ j = 66 ∨ (72 ≤ j ∧ j ≤ 77)
theorem TN.frame {σ τ : nS} {k m : Nat} (h : TN σ k m) (e : ∀ j, (k ≤ j ∧ j ≤ k + 8) ∨ j = m → τ j = σ j) : TN τ k m := by
  obtain ⟨G, P, L, w, h1, h2, h3, h4⟩ := h
  have em := e m (Or.inr rfl)
  refine ⟨G, P, L, w, ?_, ?_, ?_, h4⟩
  · rw [em]; exact h1
  · rw [em]; exact h2.frame (fun j h1 h2 => e j (Or.inl ⟨h1, h2⟩))
  · rw [em]; exact h3
theorem SH.frame {σ τ : nS} {d : Nat} (h : SH σ d) (e : ∀ j, (j = 29 + 2 * d ∨ j = 29 + 2 * d + 1) ∨ (72 ≤ j ∧ j ≤ 77) → τ j = σ j) : SH τ d := by
  unfold SH at h ⊢
  rw [e (29 + 2 * d) (Or.inl (Or.inl rfl)), e (29 + 2 * d + 1) (Or.inl (Or.inr rfl)), e 72 (by omega), e 73 (by omega), e 74 (by omega), e 75 (by omega), e 76 (by omega), e 77 (by omega)]
  exact h
theorem Inv.frame {σ τ : nS} (h : Inv σ) (e : ∀ j, core j → τ j = σ j) (e0 : τ 0 3 = σ 0 3) (e1 : τ 63 4 = σ 63 4) : Inv τ := by
  obtain ⟨h1, h2, h3, h4⟩ := h
  refine ⟨h1.frame (fun j hj => e j ?_), by rw [e0, e1]; exact h2, ?_, fun d hd => (h4 d hd).frame (fun j hj => e j ?_)⟩
  · unfold core; omega
  · rw [e0]
    rcases h3 with h3 | ⟨h3, h5⟩
    · exact Or.inl h3
    · exact Or.inr ⟨h3, h5.frame (fun j hj => e j (by unfold core; omega))⟩
  · unfold core; omega
def Sff (σ : nS) (a b : nS → Option Int32) : Prop := ∃ r, a σ = some r ∧ b σ = some r
def Sll (σ : nS) (a b : nS → Option Int64) : Prop := ∃ r, a σ = some r ∧ b σ = some r
def See (σ : nS) (a b : nS → Option (Int32 × nS)) : Prop := ∃ r τ υ, a σ = some (r, τ) ∧ b τ = some (r, υ) ∧ Inv υ
def Sef (σ : nS) (a : nS → Option (Int32 × nS)) (b : nS → Option Int32) : Prop := ∃ r τ, a σ = some (r, τ) ∧ b τ = some r ∧ Inv τ
def Sfe (σ : nS) (a : nS → Option Int32) (b : nS → Option (Int32 × nS)) : Prop := ∃ r υ, a σ = some r ∧ b σ = some (r, υ) ∧ Inv υ
/-! the checks at the head of the calls -/
theorem ti0 : (0 : Int32).toInt = 0 := by decide
theorem ti1 : (1 : Int32).toInt = 1 := by decide
theorem ti2 : (2 : Int32).toInt = 2 := by decide
theorem ti3 : (3 : Int32).toInt = 3 := by decide
theorem ti7 : (7 : Int32).toInt = 7 := by decide
theorem ti8 : (8 : Int32).toInt = 8 := by decide
theorem ti9 : (9 : Int32).toInt = 9 := by decide
theorem ti10 : (10 : Int32).toInt = 10 := by decide
theorem ti20 : (20 : Int32).toInt = 20 := by decide
theorem ti60 : (60 : Int32).toInt = 60 := by decide
theorem ti100 : (100 : Int32).toInt = 100 := by decide
theorem tim1 : (-1 : Int32).toInt = -1 := by decide
theorem tipred {G : Nat} (hG : G < 1000000) : (nI G - (1 : Int32)).toInt = (G : Int) - 1 := by
  rw [pl1]; exact pk_sub_toInt (by omega) (by omega)
theorem lt_ti (a b : Int32) : (a < b) = (a.toInt < b.toInt) := propext Int32.lt_iff_toInt_lt
theorem le_ti (a b : Int32) : (a ≤ b) = (a.toInt ≤ b.toInt) := propext Int32.le_iff_toInt_le
theorem bi_c {c : Prop} [Decidable c] (o : Option Int32) (ht : c → o = some 1) (hf : ¬ c → o = some 0) : o = some (bi (decide c)) := by
  by_cases h : c
  · rw [ht h]; simp [h, bi]
  · rw [hf h]; simp [h, bi]
theorem M_isIn (x a b : Int32) (σ : nS) : fX6_isIn x a b σ = some (bi (decide (a.toInt ≤ x.toInt ∧ x.toInt ≤ b.toInt))) := by
  refine bi_c _ (fun h => ?_) (fun h => ?_)
  · simp only [fX6_isIn, lt_ti]; rw [if_neg (by omega), if_neg (by omega)]
  · simp only [fX6_isIn, lt_ti]
    by_cases c : x.toInt < a.toInt
    · rw [if_pos c]
    · rw [if_neg c, if_pos (by omega)]
theorem C_isGoods {σ : nS} {k G : Nat} (x : Int32) (e : σ k 3 = nI G) (hG : G ≤ 8) : fX4_isGoods k x σ = some (bi (decide (nin x G))) := by
  have hg := pti (n := G) (by omega)
  refine bi_c _ (fun h => ?_) (fun h => ?_)
  · simp only [fX4_isGoods, lt_ti, le_ti, e, ti0, hg]; unfold nin at h; rw [if_neg (by omega), if_neg (by omega)]
  · simp only [fX4_isGoods, lt_ti, le_ti, e, ti0, hg]; unfold nin at h
    by_cases c : x.toInt < 0
    · rw [if_pos c]
    · rw [if_neg c, if_pos (by omega)]
theorem C_isPerson {σ : nS} {k G : Nat} (x : Int32) (e : σ k 5 = nI G) (hG : G ≤ 8) : fX4_isPerson k x σ = some (bi (decide (nin x G))) := by
  have hg := pti (n := G) (by omega)
  refine bi_c _ (fun h => ?_) (fun h => ?_)
  · simp only [fX4_isPerson, lt_ti, le_ti, e, ti0, hg]; unfold nin at h; rw [if_neg (by omega), if_neg (by omega)]
  · simp only [fX4_isPerson, lt_ti, le_ti, e, ti0, hg]; unfold nin at h
    by_cases c : x.toInt < 0
    · rw [if_pos c]
    · rw [if_neg c, if_pos (by omega)]
theorem C_isLoan {σ : nS} {k G : Nat} (x : Int32) (e : σ k 9 = nI G) (hG : G ≤ 8) : fX4_isLoan k x σ = some (bi (decide (nin x G))) := by
  have hg := pti (n := G) (by omega)
  refine bi_c _ (fun h => ?_) (fun h => ?_)
  · simp only [fX4_isLoan, lt_ti, le_ti, e, ti0, hg]; unfold nin at h; rw [if_neg (by omega), if_neg (by omega)]
  · simp only [fX4_isLoan, lt_ti, le_ti, e, ti0, hg]; unfold nin at h
    by_cases c : x.toInt < 0
    · rw [if_pos c]
    · rw [if_neg c, if_pos (by omega)]
theorem C_isShelf (x : Int32) (σ : nS) : fX5_isShelf x σ = some (bi (decide (nin x 8))) := by
  refine bi_c _ (fun h => ?_) (fun h => ?_)
  · simp only [fX5_isShelf, lt_ti, le_ti, ti0, ti8]; unfold nin at h; rw [if_neg (by omega), if_neg (by omega)]
  · simp only [fX5_isShelf, lt_ti, le_ti, ti0, ti8]; unfold nin at h
    by_cases c : x.toInt < 0
    · rw [if_pos c]
    · rw [if_neg c, if_pos (by omega)]
theorem C_isKind (x : Int32) (σ : nS) : fX5_isKind x σ = some (bi (decide (nin x 8))) := by
  refine bi_c _ (fun h => ?_) (fun h => ?_)
  · simp only [fX5_isKind, lt_ti, le_ti, ti0, ti7]; unfold nin at h; rw [if_neg (by omega), if_neg (by omega)]
  · simp only [fX5_isKind, lt_ti, le_ti, ti0, ti7]; unfold nin at h
    by_cases c : x.toInt < 0
    · rw [if_pos c]
    · rw [if_neg c, if_pos (by omega)]
theorem C_isFigure (x : Int32) (σ : nS) : fX5_isFigure x σ = some (bi (decide (nin x 10))) := by
  refine bi_c _ (fun h => ?_) (fun h => ?_)
  · simp only [fX5_isFigure, lt_ti, le_ti, ti0, ti10]; unfold nin at h; rw [if_neg (by omega), if_neg (by omega)]
  · simp only [fX5_isFigure, lt_ti, le_ti, ti0, ti10]; unfold nin at h
    by_cases c : x.toInt < 0
    · rw [if_pos c]
    · rw [if_neg c, if_pos (by omega)]
theorem decnin {x : Int32} {n : Nat} {c : Prop} [Decidable c] (h : nin x n ↔ c) : decide c = decide (nin x n) := by
  by_cases q : nin x n
  · rw [decide_eq_true q, decide_eq_true (h.mp q)]
  · rw [decide_eq_false q, decide_eq_false (fun z => q (h.mpr z))]
theorem M_isGood {σ : nS} {G : Nat} (x : Int32) (e : σ 64 0 = nI G) (hG : G ≤ 8) : fX6_isGood x σ = some (bi (decide (nin x G))) := by
  simp only [fX6_isGood, pk0, if_true, tc0, e, M_isIn, pb, bi_n, tipred (show G < 1000000 by omega), ti0]
  rw [decnin (x := x) (n := G)]
  unfold nin; omega
theorem M_isPerson {σ : nS} {G : Nat} (x : Int32) (e : σ 64 1 = nI G) (hG : G ≤ 8) : fX6_isPerson x σ = some (bi (decide (nin x G))) := by
  simp only [fX6_isPerson, pk1, if_true, tc1, e, M_isIn, pb, bi_n, tipred (show G < 1000000 by omega), ti0]
  rw [decnin (x := x) (n := G)]
  unfold nin; omega
theorem M_isLoan {σ : nS} {G : Nat} (x : Int32) (e : σ 64 2 = nI G) (hG : G ≤ 8) : fX6_isLoan x σ = some (bi (decide (nin x G))) := by
  simp only [fX6_isLoan, pk2, if_true, tc2, e, M_isIn, pb, bi_n, tipred (show G < 1000000 by omega), ti0]
  rw [decnin (x := x) (n := G)]
  unfold nin; omega
theorem M_isIn0 (x : Int32) (n : Nat) {m : Int32} (hm : m.toInt = (n : Int)) (σ : nS) : fX6_isIn x 0 m σ = some (bi (decide (nin x (n + 1)))) := by
  rw [M_isIn, ti0, hm, decnin (x := x) (n := n + 1)]
  unfold nin; omega
theorem M_isIn3 (x : Int32) (σ : nS) : fX6_isIn x 0 3 σ = some (bi (decide (nin x 4))) := M_isIn0 x 3 ti3 σ
theorem M_isIn2 (x : Int32) (σ : nS) : fX6_isIn x 0 2 σ = some (bi (decide (nin x 3))) := M_isIn0 x 2 ti2 σ
theorem M_isIn1 (x : Int32) (σ : nS) : fX6_isIn x 0 1 σ = some (bi (decide (nin x 2))) := M_isIn0 x 1 ti1 σ
theorem M_isIn7 (x : Int32) (σ : nS) : fX6_isIn x 0 7 σ = some (bi (decide (nin x 8))) := M_isIn0 x 7 ti7 σ
theorem M_isIn9 (x : Int32) (σ : nS) : fX6_isIn x 0 9 σ = some (bi (decide (nin x 10))) := M_isIn0 x 9 ti9 σ
theorem M_isIn60 (x : Int32) (σ : nS) : fX6_isIn x 0 60 σ = some (bi (decide (nin x 61))) := M_isIn0 x 60 ti60 σ
theorem M_isShelf (x : Int32) (σ : nS) : fX6_isShelf x σ = some (bi (decide (nin x 8))) := by
  simp only [fX6_isShelf, M_isIn7, pb, bi_n, if_true]
theorem nlt2 {x : Int32} {n : Nat} (hn : n < 1000) (h : ¬ nin x (n + 1)) : x < 0 ∨ ¬ x ≤ nI n := by
  rw [lt_ti, le_ti, ti0, pti (by omega)]; unfold nin at h; omega
/-- of 0 .. n - 1 one at a time -/
theorem n4 {x : Int32} (h : nin x 4) : x = 0 ∨ x = 1 ∨ x = 2 ∨ x = 3 := by
  obtain ⟨a, ha, rfl⟩ := pof h (by omega)
  match a, ha with
  | 0, _ => exact Or.inl rfl
  | 1, _ => exact Or.inr (Or.inl rfl)
  | 2, _ => exact Or.inr (Or.inr (Or.inl rfl))
  | 3, _ => exact Or.inr (Or.inr (Or.inr rfl))
  | a + 4, h => omega
theorem n4n {x : Int32} (h : ¬ nin x 4) : ¬ x = 0 ∧ ¬ x = 1 ∧ ¬ x = 2 ∧ ¬ x = 3 := by
  refine ⟨?_, ?_, ?_, ?_⟩ <;> (rintro rfl; exact h (by decide))
theorem n3 {x : Int32} (h : nin x 3) : x = 0 ∨ x = 1 ∨ x = 2 := by
  obtain ⟨a, ha, rfl⟩ := pof h (by omega)
  match a, ha with
  | 0, _ => exact Or.inl rfl
  | 1, _ => exact Or.inr (Or.inl rfl)
  | 2, _ => exact Or.inr (Or.inr rfl)
  | a + 3, h => omega
theorem n3n {x : Int32} (h : ¬ nin x 3) : ¬ x = 0 ∧ ¬ x = 1 ∧ ¬ x = 2 := by
  refine ⟨?_, ?_, ?_⟩ <;> (rintro rfl; exact h (by decide))
theorem n2 {x : Int32} (h : nin x 2) : x = 0 ∨ x = 1 := by
  obtain ⟨a, ha, rfl⟩ := pof h (by omega)
  match a, ha with
  | 0, _ => exact Or.inl rfl
  | 1, _ => exact Or.inr rfl
  | a + 2, h => omega
theorem bit0 : (bi true = 0) = False := by simp [bi]
theorem bif0 : (bi false = 0) = True := by simp [bi]
theorem gt4 {x : Int32} (h : decide (nin x 4) = true) : x = 0 ∨ x = 1 ∨ x = 2 ∨ x = 3 := n4 (of_decide_eq_true h)
theorem gt3 {x : Int32} (h : decide (nin x 3) = true) : x = 0 ∨ x = 1 ∨ x = 2 := n3 (of_decide_eq_true h)
theorem gt2 {x : Int32} (h : decide (nin x 2) = true) : x = 0 ∨ x = 1 := n2 (of_decide_eq_true h)
theorem gf4 {x : Int32} (h : decide (nin x 4) = false) : ¬ x = 0 ∧ ¬ x = 1 ∧ ¬ x = 2 ∧ ¬ x = 3 := n4n (of_decide_eq_false h)
theorem gf3 {x : Int32} (h : decide (nin x 3) = false) : ¬ x = 0 ∧ ¬ x = 1 ∧ ¬ x = 2 := n3n (of_decide_eq_false h)
theorem gtn {x : Int32} {n : Nat} (h : decide (nin x n) = true) (hn : n < 2147483648) : ∃ a, a < n ∧ x = nI a := pof (of_decide_eq_true h) hn
theorem gfn {x : Int32} {n : Nat} (h : decide (nin x (n + 1)) = false) (hn : n < 1000) : (x < 0) = True ∨ ((x < 0) = False ∧ (x ≤ nI n) = False) := by
  have h := of_decide_eq_false h
  by_cases c : x < 0
  · exact Or.inl (by simp [c])
  · rcases nlt2 hn h with q | q
    · exact absurd q c
    · exact Or.inr ⟨by simp [c], by simp [q]⟩
