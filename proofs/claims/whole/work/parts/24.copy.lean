/-! PURE 15: a stretch copied -/
def cpv (f : Nat → Int32) (A B lo hi : Nat) : Nat → Int32 := fun q => if B + lo ≤ q ∧ q < B + hi then f (A + (q - B)) else f q
theorem sub_ti {N a : Nat} (hN : N ≤ 100) (ha : a < 2147483648) : (nI N - nI a).toInt = (N : Int) - a := by
  rw [Int32.toInt_sub, pti (by omega), pti (by omega)]
  exact Int.bmod_eq_of_le (by omega) (by omega)
theorem nat_of {x : Int32} (h : ¬ x < 0) : ∃ a, a < 2147483648 ∧ x = nI a := by
  obtain ⟨j, hj, e⟩ := nI_of h
  exact ⟨j, hj, e⟩
abbrev strch (N : Nat) (x n : Int32) : Prop := 0 ≤ x.toInt ∧ 0 ≤ n.toInt ∧ x.toInt + n.toInt ≤ (N : Int)
theorem sub_lt {N : Nat} {x n : Int32} (hN : N ≤ 100) (hx : 0 ≤ x.toInt) : ((nI N - x) < n) = ((N : Int) < x.toInt + n.toInt) := by
  obtain ⟨a, ha, rfl⟩ := nat_of (x := x) (by rw [lt_ti, ti0]; omega)
  rw [lt_ti, sub_ti hN ha, pti ha]
  apply propext; omega
theorem C_isStretch {σ : nS} {k N : Nat} (x n : Int32) (e : σ k 4 = nI N) (hN : N ≤ 100) : fX1_isStretch k x n σ = some (bi (decide (strch N x n))) := by
  have hg := pti (n := N) (by omega)
  rw [fX1_isStretch, e]
  by_cases c1 : x < 0
  · rw [if_pos c1, decide_eq_false (by unfold strch; rw [lt_ti, ti0] at c1; omega)]; rfl
  rw [if_neg c1]
  have c1' : 0 ≤ x.toInt := by rw [lt_ti, ti0] at c1; omega
  by_cases c2 : nI N < x
  · rw [if_pos c2]
    by_cases c3 : n.toInt < 0
    · rw [decide_eq_false (by unfold strch; omega)]; rfl
    · rw [decide_eq_false (by unfold strch; rw [lt_ti, hg] at c2; omega)]; rfl
  rw [if_neg c2]
  by_cases c3 : n < 0
  · rw [if_pos c3, decide_eq_false (by unfold strch; rw [lt_ti, ti0] at c3; omega)]; rfl
  rw [if_neg c3]
  rw [lt_ti, ti0] at c3
  simp only [sub_lt hN c1']
  by_cases c4 : (N : Int) < x.toInt + n.toInt
  · rw [if_pos c4, decide_eq_false (by unfold strch; omega)]; rfl
  · rw [if_neg c4, decide_eq_true (by unfold strch; omega)]; rfl
/-- one element of the copy -/
theorem cpv_step {f : Nat → Int32} {A B lo hi t : Nat} (ht : t < lo ∨ hi ≤ t) (hA : A + t < B + lo ∨ B + hi ≤ A + t) (q : Nat) : upd (cpv f A B lo hi) (B + t) (cpv f A B lo hi (A + t)) q = if q = B + t then f (A + t) else cpv f A B lo hi q := by
  have e : cpv f A B lo hi (A + t) = f (A + t) := by rw [cpv, if_neg (by omega)]
  by_cases c : q = B + t
  · subst c; rw [upd_s, e, if_pos rfl]
  · rw [upd_n _ _ c, if_neg c]
theorem p100s (d i : Nat) (n : Nat) : ((100 : Int32) * nI d + nI i) + nI n = nI (100 * d + i + n) := by rw [p100i, padd]
theorem M_copy1 {σ : nS} {s : Int32 → Int32 → Int32 → Int32 → Int32 → Int32 → nS → Option (Int32 × nS)} {n : Int32} {d i e j m t : Nat} (h1 : 100 * d + i + t < 800) (h2 : 100 * e + j + t < 800) : fX6_copy_b147 s (nI d) (nI i) (nI e) (nI j) n (nI m) (nI t) σ = s (nI d) (nI i) (nI e) (nI j) n (nI (m + 1)) (nU σ 77 (upd (σ 77) (100 * e + j + t) (σ 77 (100 * d + i + t)))) := by
  simp (disch := omega) only [fX6_copy_b147, pnl, pb, pb2, pinc, pnin, pc0, if_pos, if_true, p100s]
theorem M_copyd {σ : nS} {d i e j n : Nat} (hd : d < 8) (he : e < 8) (h1 : i + n ≤ 100) (h2 : j + n ≤ 100) (hij : i ≤ j) : fX6_copy_b122 4096 (nI d) (nI i) (nI e) (nI j) (nI n) (nI 0) σ = some (nI n, nU σ 77 (cpv (σ 77) (100 * d + i) (100 * e + j) 0 n)) := by
  have key := ploop (fun N m => fX6_copy_b122 N (nI d) (nI i) (nI e) (nI j) (nI n) (nI m) (nU σ 77 (cpv (σ 77) (100 * d + i) (100 * e + j) (n - m) n))) (some (nI n, nU σ 77 (cpv (σ 77) (100 * d + i) (100 * e + j) 0 n))) n
    (fun N => by
      simp (disch := omega) only [fX6_copy_b122, pnl, pb, pb2, pinc, pnin, pc0, if_pos, if_true, ple, Nat.sub_self])
    (fun N m hm => by
      rw [fX6_copy_b122, if_neg (by rw [ple (by omega) (by omega)]; omega), if_pos (by rw [ple (by omega) (by omega)]; exact hij), psub1 (by omega), pk_sub (show m ≤ n - 1 by omega)]
      rw [M_copy1 (by omega) (by omega), nU_s, nUU]
      congr 2
      funext q
      rw [cpv_step (Or.inl (by omega)) (by
        rcases Nat.lt_trichotomy d e with c | c | c
        · omega
        · subst c; omega
        · omega)]
      by_cases c : q = 100 * e + j + (n - 1 - m)
      · subst c
        rw [if_pos rfl, cpv, if_pos (by omega)]
        congr 1; omega
      · rw [if_neg c, cpv, cpv]
        have : (100 * e + j + (n - m) ≤ q ∧ q < 100 * e + j + n) = (100 * e + j + (n - (m + 1)) ≤ q ∧ q < 100 * e + j + n) := propext (by omega)
        simp only [this])
  have h9 := key 4096 0 (by omega) (by omega)
  have e0 : cpv (σ 77) (100 * d + i) (100 * e + j) (n - 0) n = σ 77 := by
    funext q
    rw [cpv, if_neg (by omega)]
  rw [e0, nUid] at h9
  exact h9
theorem M_copya {σ : nS} {d i e j n : Nat} (hd : d < 8) (he : e < 8) (h1 : i + n ≤ 100) (h2 : j + n ≤ 100) (hij : ¬ i ≤ j) : fX6_copy_b122 4096 (nI d) (nI i) (nI e) (nI j) (nI n) (nI 0) σ = some (nI n, nU σ 77 (cpv (σ 77) (100 * d + i) (100 * e + j) 0 n)) := by
  have key := ploop (fun N m => fX6_copy_b122 N (nI d) (nI i) (nI e) (nI j) (nI n) (nI m) (nU σ 77 (cpv (σ 77) (100 * d + i) (100 * e + j) 0 m))) (some (nI n, nU σ 77 (cpv (σ 77) (100 * d + i) (100 * e + j) 0 n))) n
    (fun N => by
      simp (disch := omega) only [fX6_copy_b122, pnl, pb, pb2, pinc, pnin, pc0, if_pos, if_true, ple])
    (fun N m hm => by
      rw [fX6_copy_b122, if_neg (by rw [ple (by omega) (by omega)]; omega), if_neg (by rw [ple (by omega) (by omega)]; exact hij)]
      rw [M_copy1 (by omega) (by omega), nU_s, nUU]
      congr 2
      funext q
      rw [cpv_step (Or.inr (by omega)) (by
        rcases Nat.lt_trichotomy d e with c | c | c
        · omega
        · subst c; omega
        · omega)]
      by_cases c : q = 100 * e + j + m
      · subst c
        rw [if_pos rfl, cpv, if_pos (by omega)]
        congr 1; omega
      · rw [if_neg c, cpv, cpv]
        have : (100 * e + j + 0 ≤ q ∧ q < 100 * e + j + m) = (100 * e + j + 0 ≤ q ∧ q < 100 * e + j + (m + 1)) := propext (by omega)
        simp only [this])
  have h9 := key 4096 0 (by omega) (by omega)
  have e0 : cpv (σ 77) (100 * d + i) (100 * e + j) 0 0 = σ 77 := by
    funext q
    rw [cpv, if_neg (by omega)]
  rw [e0, nUid] at h9
  exact h9
theorem M_copyb {σ : nS} {d i e j n : Nat} (hd : d < 8) (he : e < 8) (h1 : i + n ≤ 100) (h2 : j + n ≤ 100) : fX6_copy_b122 4096 (nI d) (nI i) (nI e) (nI j) (nI n) (nI 0) σ = some (nI n, nU σ 77 (cpv (σ 77) (100 * d + i) (100 * e + j) 0 n)) := by
  by_cases c : i ≤ j
  · exact M_copyd hd he h1 h2 c
  · exact M_copya hd he h1 h2 c
theorem Inv.copy {σ : nS} {d i e j n : Nat} (I : Inv σ) (hd : d < 8) (he : e < 8) (h1 : i + n ≤ 100) (h2 : j + n ≤ 100) (hs : σ 75 d = σ 75 e) : Inv (nU (nU σ (29 + 2 * e + 1) (va_cpy (σ (29 + 2 * d + 1)) (σ (29 + 2 * e + 1)) i j n)) 77 (cpv (σ 77) (100 * d + i) (100 * e + j) 0 n)) := by
  refine I.shelf (fun j hj => by simp (disch := omega) only [nU_n]) (fun e' he' => ?_)
  have hs' := I.2.2.2 e' he'
  by_cases c : e' = e
  · subst c
    obtain ⟨h1', h2', h3, h4, h5, h6, h7, h8, h9⟩ := hs'
    have hsd := I.2.2.2 d hd
    unfold SH
    simp (disch := omega) only [nU_n, nU_s]
    refine ⟨h1', h2', h3, h4, h5, h6, h7, fun q hq => ?_, fun k q hq => ?_⟩
    · by_cases c : j ≤ q ∧ q < j + n
      · rw [pk_cpy_in c.1 c.2, cpv, if_pos (by omega), hsd.2.2.2.2.2.2.2.1 _ (by omega)]
        congr 1; omega
      · rw [pk_cpy_out (by omega), cpv, if_neg (by omega)]; exact h8 q hq
    · by_cases c : j ≤ q ∧ q < j + n
      · rw [cpv, if_pos (by omega), show 100 * d + i + (100 * e' + q - (100 * e' + j)) = 100 * d + (i + (q - j)) by omega]
        exact hsd.2.2.2.2.2.2.2.2 (by rw [hs]; exact k) _ (by omega)
      · rw [cpv, if_neg (by omega)]; exact h9 k q hq
  · refine hs'.point (fun j => ?_) (fun j hj => ?_) (fun j j1 j2 => ?_) (fun q hq => ?_)
    · simp (disch := omega) only [nU_n]
    · simp (disch := omega) only [nU_n]
    · simp (disch := omega) only [nU_n]
    · simp (disch := omega) only [nU_s]
      rw [cpv, if_neg (by omega)]
theorem S_copy {σ : nS} (I : Inv σ) (x i y j n : Int32) : See σ (fX5_copy x i y j n) (fX6_copy x i y j n) := by
  simp only [See, fX5_copy, fX6_copy, C_isShelf, M_isShelf, pb]
  cases h : decide (nin x 8) with
  | false => simp only [bif0, if_true]; exact ⟨-1, σ, σ, rfl, rfl, I⟩
  | true =>
    cases h2 : decide (nin y 8) with
    | false => simp only [bif0, bit0, if_true, if_false]; exact ⟨-1, σ, σ, rfl, rfl, I⟩
    | true =>
      obtain ⟨d, hd, rfl⟩ := gtn h (by omega)
      obtain ⟨e, he, rfl⟩ := gtn h2 (by omega)
      have hsd := I.2.2.2 d hd
      have hse := I.2.2.2 e he
      obtain ⟨N, hN, eN⟩ := pof hsd.2.2.2.2.2.2.1 (by omega)
      obtain ⟨K, hK, eK⟩ := pof hse.2.2.2.2.2.2.1 (by omega)
      have aN : σ (29 + 2 * d) 4 = nI N := by rw [hsd.2.2.2.2.2.1]; exact eN
      have aK : σ (29 + 2 * e) 4 = nI K := by rw [hse.2.2.2.2.2.1]; exact eK
      have n1 : nin (nI d) 8 := pnin0 (by omega) hd
      have n2 : nin (nI e) 8 := pnin0 (by omega) he
      have n3 : (nI d).toNatClampNeg = d := pc0 (by omega)
      have n4 : (nI e).toNatClampNeg = e := pc0 (by omega)
      simp only [bit0, if_false, if_pos n1, if_pos n2, n3, n4]
      simp only [hsd.1, hse.1, hsd.2.2.2.1, hse.2.2.2.1]
      by_cases c1 : σ 72 d = 0
      · simp only [if_pos c1]; exact ⟨-11, σ, σ, rfl, by simp only [if_pos c1], I⟩
      by_cases c2 : σ 72 e = 0
      · simp only [if_neg c1, if_pos c2]; exact ⟨-11, σ, σ, rfl, by simp only [if_neg c1, if_pos c2], I⟩
      rcases Decidable.em (σ 72 d = 2) with c3 | c3
      case inr => simp only [if_neg c1, if_neg c2, if_neg c3]; exact ⟨-12, σ, σ, rfl, by simp only [if_neg c1, if_neg c2, if_neg c3], I⟩
      rcases Decidable.em (σ 72 e = 2) with c4 | c4
      case inr => simp only [if_neg c1, if_neg c2, if_pos c3, if_neg c4]; exact ⟨-12, σ, σ, rfl, by simp only [if_neg c1, if_neg c2, if_pos c3, if_neg c4], I⟩
      rcases Decidable.em (σ 75 d = σ 75 e) with c5 | c5
      case inr => simp only [if_neg c1, if_neg c2, if_pos c3, if_pos c4, if_neg c5]; exact ⟨-12, σ, σ, rfl, by simp only [if_neg c1, if_neg c2, if_pos c3, if_pos c4, if_neg c5], I⟩
      simp only [if_neg c1, if_neg c2, if_pos c3, if_pos c4, if_pos c5, C_isStretch i n aN (show N ≤ 100 by omega), C_isStretch j n aK (show K ≤ 100 by omega), pb]
      by_cases s : strch N i n ∧ strch K j n
      · obtain ⟨s1, s2⟩ := s
        obtain ⟨a1, a2, a3⟩ := s1
        obtain ⟨b1, b2, b3⟩ := s2
        obtain ⟨i, hi, rfl⟩ := pof (x := i) (n := 101) ⟨a1, by omega⟩ (by omega)
        obtain ⟨j, hj, rfl⟩ := pof (x := j) (n := 101) ⟨b1, by omega⟩ (by omega)
        obtain ⟨n, hn, rfl⟩ := pof (x := n) (n := 101) ⟨a2, by omega⟩ (by omega)
        rw [pti (by omega), pti (by omega)] at a3 b3
        have s1 : strch N (nI i) (nI n) := ⟨a1, a2, by rw [pti (by omega), pti (by omega)]; exact a3⟩
        have s2 : strch K (nI j) (nI n) := ⟨b1, b2, by rw [pti (by omega), pti (by omega)]; exact b3⟩
        have cc : (0 ≤ (nI n).toInt ∧ (nI i).toInt + (nI n).toInt ≤ ((100 : Nat) : Int) ∧ (nI j).toInt + (nI n).toInt ≤ ((100 : Nat) : Int)) = True := by
          rw [pti (by omega), pti (by omega), pti (by omega)]
          simp; omega
        have n5 : nin (nI i) (100 + 1) := pnin0 (by omega) (by omega)
        have n6 : nin (nI j) (100 + 1) := pnin0 (by omega) (by omega)
        have n7 : (nI i).toNatClampNeg = i := pc0 (by omega)
        have n8 : (nI j).toNatClampNeg = j := pc0 (by omega)
        have n9 : (nI n).toNatClampNeg = n := pc0 (by omega)
        simp only [decide_eq_true s1, decide_eq_true s2, bit0, if_false, if_pos n5, if_pos n6, cc, if_true, n7, n8, n9, pnl]
        refine ⟨nI n, _, _, rfl, ?_, I.copy hd he (show i + n ≤ 100 by omega) (show j + n ≤ 100 by omega) c5⟩
        simp (disch := omega) only [nU_n, if_neg c1, if_neg c2, if_pos c3, if_pos c4, if_pos c5, pneg, if_false, eN, eK]
        rw [if_neg (by rw [sub_lt (by omega) a1, pti (by omega), pti (by omega)]; omega)]
        rw [if_pos (by rw [← Int32.not_lt, sub_lt (by omega) b1, pti (by omega), pti (by omega)]; omega), pl0, M_copyb hd he (show i + n ≤ 100 by omega) (show j + n ≤ 100 by omega)]
        simp (disch := omega) only [nU_n]
      · refine ⟨-13, σ, σ, ?_, ?_, I⟩
        · by_cases q : strch N i n
          · rw [decide_eq_true q, decide_eq_false (fun z => s ⟨q, z⟩)]; simp only [bit0, bif0, if_true, if_false]
          · rw [decide_eq_false q]; simp only [bif0, if_true]
        · simp only [if_neg c1, if_neg c2, if_pos c3, if_pos c4, if_pos c5, eN, eK]
          by_cases d1 : n < 0
          · rw [if_pos d1]
          rw [if_neg d1]
          by_cases d2 : i < 0
          · rw [if_pos d2]
          rw [if_neg d2]
          by_cases d3 : j < 0
          · rw [if_pos d3]
          rw [if_neg d3]
          rw [lt_ti, ti0] at d1 d2 d3
          by_cases d4 : (nI N - i) < n
          · rw [if_pos d4]
          rw [if_neg d4]
          rw [sub_lt (by omega) (by omega)] at d4
          rw [if_neg]
          rw [← Int32.not_lt, sub_lt (by omega) (by omega)]
          intro d5
          exact s ⟨⟨by omega, by omega, by omega⟩, ⟨by omega, by omega, by omega⟩⟩
