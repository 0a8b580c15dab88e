/-! PURE 39: the text of a town: its form -/
def fdg (x : Int32) : Nat := if x = 103 then 3 else if x = 108 then 2 else if x = 112 then 1 else if x = 115 then 2 else if x = 119 then 2 else 0
def isd (x : Int32) : Bool := decide (48 ≤ x.toInt ∧ x.toInt ≤ 57)
theorem byte_tab : ∀ u, u < 256 → ((nI u - nI 128 &&& 255 = 103) ↔ nI u - nI 128 = 103) ∧ ((nI u - nI 128 &&& 255 = 108) ↔ nI u - nI 128 = 108) ∧ ((nI u - nI 128 &&& 255 = 112) ↔ nI u - nI 128 = 112) ∧ ((nI u - nI 128 &&& 255 = 115) ↔ nI u - nI 128 = 115) ∧ ((nI u - nI 128 &&& 255 = 119) ↔ nI u - nI 128 = 119) ∧ ((nI u - nI 128 &&& 255 = 59) ↔ nI u - nI 128 = 59) ∧ isd (nI u - nI 128 &&& 255) = isd (nI u - nI 128) ∧ (isd (nI u - nI 128) = true → (nI u - nI 128 &&& 255) = nI u - nI 128 ∧ nin (nI u - nI 128 - 48) 10) := by decide +kernel
theorem byte_of {b : Int32} (h : -128 ≤ b.toInt ∧ b.toInt < 128) : ((b &&& 255 = 103) ↔ b = 103) ∧ ((b &&& 255 = 108) ↔ b = 108) ∧ ((b &&& 255 = 112) ↔ b = 112) ∧ ((b &&& 255 = 115) ↔ b = 115) ∧ ((b &&& 255 = 119) ↔ b = 119) ∧ ((b &&& 255 = 59) ↔ b = 59) ∧ isd (b &&& 255) = isd b ∧ (isd b = true → (b &&& 255) = b ∧ nin (b - 48) 10) := by
  have e : b = nI (b.toInt + 128).toNat - nI 128 := by
    apply Int32.toInt_inj.mp
    rw [pk_sub_toInt (by omega) (by omega)]
    omega
  rw [e]
  exact byte_tab _ (by omega)
/-- k digits from a place on, then a semicolon -/
def scan (c : Nat → Int32) (N : Nat) : Nat → Nat → Bool × Nat
  | 0, i => if i < N ∧ c i = 59 then (true, i + 1) else (false, i)
  | k + 1, i => if i < N ∧ isd (c i) = true then scan c N k (i + 1) else (false, i)
theorem scan_le {c : Nat → Int32} {N : Nat} : ∀ k i, i ≤ N → (scan c N k i).2 ≤ N ∧ ((scan c N k i).1 = true → (scan c N k i).2 = i + k + 1 ∧ (∀ j, i ≤ j → j < i + k → j < N ∧ isd (c j) = true) ∧ i + k < N) := by
  intro k
  induction k with
  | zero =>
    intro i hi
    rw [scan]
    by_cases q : i < N ∧ c i = 59
    · rw [if_pos q]; exact ⟨by show i + 1 ≤ N; omega, fun _ => ⟨rfl, fun j h1 h2 => by omega, by omega⟩⟩
    · rw [if_neg q]; exact ⟨hi, fun h => by cases h⟩
  | succ k ih =>
    intro i hi
    rw [scan]
    by_cases q : i < N ∧ isd (c i) = true
    · rw [if_pos q]
      obtain ⟨h1, h2⟩ := ih (i + 1) (by omega)
      refine ⟨h1, fun h => ?_⟩
      obtain ⟨a1, a2, a3⟩ := h2 h
      refine ⟨by rw [a1]; omega, fun j j1 j2 => ?_, by omega⟩
      by_cases e : j = i
      · subst e; exact q
      · exact a2 j (by omega) (by omega)
    · rw [if_neg q]; exact ⟨hi, fun h => by cases h⟩
def stm (c : Nat → Int32) (N q : Nat) : Bool × Nat := if q < N ∧ 0 < fdg (c q) then scan c N (fdg (c q)) (q + 1) else (false, q)
def good (c : Nat → Int32) (N : Nat) : Nat → Nat → Prop
  | 0, q => q = N
  | K + 1, q => q < N ∧ (stm c N q).1 = true ∧ good c N K (stm c N q).2
def bad (c : Nat → Int32) (N i : Nat) : Nat → Nat → Prop
  | 0, q => q < N ∧ stm c N q = (false, i)
  | K + 1, q => q < N ∧ (stm c N q).1 = true ∧ bad c N i K (stm c N q).2
theorem stm_ok {c : Nat → Int32} {N q : Nat} (h : (stm c N q).1 = true) : q < N ∧ 0 < fdg (c q) ∧ (stm c N q).2 = q + fdg (c q) + 2 ∧ (∀ j, q + 1 ≤ j → j < q + 1 + fdg (c q) → j < N ∧ isd (c j) = true) ∧ q + 1 + fdg (c q) < N := by
  rw [stm] at h ⊢
  by_cases k : q < N ∧ 0 < fdg (c q)
  · rw [if_pos k] at h ⊢
    obtain ⟨a1, a2, a3⟩ := (scan_le (c := c) (N := N) (fdg (c q)) (q + 1) (by omega)).2 h
    exact ⟨k.1, k.2, by rw [a1]; omega, a2, a3⟩
  · rw [if_neg k] at h; cases h
theorem good_bad {c : Nat → Int32} {N : Nat} : ∀ e q, q ≤ N → N - q ≤ e → (∃ K, K ≤ e ∧ good c N K q) ∨ ∃ K i, K ≤ e ∧ i ≤ N ∧ bad c N i K q := by
  intro e
  induction e with
  | zero => intro q h1 h2; exact Or.inl ⟨0, Nat.le_refl 0, by show q = N; omega⟩
  | succ e ih =>
    intro q h1 h2
    by_cases hq : q = N
    · exact Or.inl ⟨0, by omega, hq⟩
    · cases hs : (stm c N q).1 with
      | false =>
        refine Or.inr ⟨0, (stm c N q).2, by omega, ?_, by omega, ?_⟩
        · rw [stm]
          by_cases k : q < N ∧ 0 < fdg (c q)
          · rw [if_pos k]; exact (scan_le (c := c) (N := N) _ _ (by omega)).1
          · rw [if_neg k]; exact h1
        · rw [← hs]
      | true =>
        obtain ⟨a1, a2, a3, a4, a5⟩ := stm_ok hs
        rcases ih (stm c N q).2 (by rw [a3]; omega) (by rw [a3]; omega) with ⟨K, k1, k2⟩ | ⟨K, i, k1, k2, k3⟩
        · exact Or.inl ⟨K + 1, by omega, a1, hs, k2⟩
        · exact Or.inr ⟨K + 1, i, by omega, k2, a1, hs, k3⟩
theorem bff (i : Nat) : ¬ ((false, i) : Bool × Nat).1 = true := Bool.false_ne_true
theorem scan_0t {c : Nat → Int32} {N i : Nat} (h1 : i < N) (h2 : c i = 59) : scan c N 0 i = (true, i + 1) := by rw [scan, if_pos ⟨h1, h2⟩]
theorem scan_0f {c : Nat → Int32} {N i : Nat} (h : ¬ (i < N ∧ c i = 59)) : scan c N 0 i = (false, i) := by rw [scan, if_neg h]
theorem scan_st {c : Nat → Int32} {N i k : Nat} (h1 : i < N) (h2 : isd (c i) = true) : scan c N (k + 1) i = scan c N k (i + 1) := by rw [scan, if_pos ⟨h1, h2⟩]
theorem scan_sf {c : Nat → Int32} {N i k : Nat} (h : ¬ (i < N ∧ isd (c i) = true)) : scan c N (k + 1) i = (false, i) := by rw [scan, if_neg h]
theorem stm_t {c : Nat → Int32} {N q : Nat} (h1 : q < N) (h2 : 0 < fdg (c q)) : stm c N q = scan c N (fdg (c q)) (q + 1) := by rw [stm, if_pos ⟨h1, h2⟩]
theorem stm_f {c : Nat → Int32} {N q : Nat} (h : ¬ (q < N ∧ 0 < fdg (c q))) : stm c N q = (false, q) := by rw [stm, if_neg h]
/-! the class looks at the form -/
theorem C_digits (x : Int32) (σ : nS) : fX5_digitsBehind x σ = some (nI (fdg x)) := by
  simp only [fX5_digitsBehind, fdg]
  repeat' split
  all_goals rfl
theorem ti48 : (48 : Int32).toInt = 48 := by decide
theorem ti57 : (57 : Int32).toInt = 57 := by decide
theorem C_isDigit (x : Int32) (σ : nS) : fX5_isDigit x σ = some (bi (isd x)) := by
  rw [isd]
  refine bi_c _ (fun h => ?_) (fun h => ?_)
  · simp only [fX5_isDigit, lt_ti, ti48, ti57]; rw [if_neg (by omega), if_neg (by omega)]
  · simp only [fX5_isDigit, lt_ti, ti48, ti57]
    by_cases c : x.toInt < 48
    · rw [if_pos c]
    · rw [if_neg c, if_pos (by omega)]
theorem C_seg {σ : nS} {k N e : Nat} {c : Nat → Int32} {s : Nat → Int32 → nS → Option Int32} (hN : N ≤ 100) (e4 : σ k 4 = nI N) (ec : ∀ i, i < 100 → σ (k + 1) i = c i) (he : e < 200) : ∀ D n i, i + D = e → i ≤ N → D + 1 < n → fX5_badPlace_b46 s n k (nI e) (nI i) σ = if (scan c N D i).1 = true then s k (nI (scan c N D i).2) σ else some (nI (scan c N D i).2) := by
  intro D
  induction D with
  | zero =>
    intro n i h1 h2 h3
    match n, h3 with
    | n + 2, _ =>
      obtain rfl : i = e := by omega
      have l1 : ¬ nI i < nI i := by rw [plt (by omega) (by omega)]; omega
      have l2 : (nI i < nI N) = (i < N) := plt (by omega) (by omega)
      have l3 : nI i ≤ nI i := by rw [ple (by omega) (by omega)]; omega
      rw [fX5_badPlace_b46, if_neg l1, e4]
      by_cases q : i < N
      · rw [if_pos (by rw [l2]; exact q), if_pos l3, if_pos (pnin0 (by omega) (show i < 100 by omega)), pc0 (by omega), ec i (by omega)]
        by_cases q2 : c i = 59
        · rw [if_pos q2, scan_0t q q2, if_pos rfl, fX5_badPlace_b102, if_neg (by decide), pnl, pinc, fX5_badPlace_b46, if_pos (by rw [plt (by omega) (by omega)]; omega), pnl, pinc]
        · rw [if_neg q2, scan_0f (fun z => q2 z.2), if_neg (bff _), fX5_badPlace_b102, if_pos rfl]
      · rw [if_neg (by rw [l2]; exact q), scan_0f (fun z => q z.1), if_neg (bff _)]
        obtain rfl : i = N := by omega
        rfl
  | succ D ih =>
    intro n i h1 h2 h3
    match n, h3 with
    | n + 1, h3 =>
      have l1 : ¬ nI e < nI i := by rw [plt (by omega) (by omega)]; omega
      have l2 : (nI i < nI N) = (i < N) := plt (by omega) (by omega)
      have l3 : ¬ nI e ≤ nI i := by rw [ple (by omega) (by omega)]; omega
      rw [fX5_badPlace_b46, if_neg l1, e4]
      by_cases q : i < N
      · rw [if_pos (by rw [l2]; exact q), if_neg l3, if_pos (pnin0 (by omega) (show i < 100 by omega)), pc0 (by omega), ec i (by omega), C_isDigit, pb]
        cases q2 : isd (c i) with
        | true =>
          rw [scan_st q q2, fX5_badPlace_b102, if_neg (by decide), pnl, pinc]
          exact ih n (i + 1) (by omega) (by omega) (by omega)
        | false =>
          rw [scan_sf (fun z => by rw [q2] at z; cases z.2), if_neg (bff _), fX5_badPlace_b102, if_pos bi_f]
      · rw [if_neg (by rw [l2]; exact q), scan_sf (fun z => q z.1), if_neg (bff _)]
        obtain rfl : i = N := by omega
        rfl
theorem fdg_le (x : Int32) : fdg x ≤ 3 := by
  unfold fdg
  repeat' split
  all_goals omega
theorem C_bp1 {σ : nS} {k N n q : Nat} {c : Nat → Int32} (hN : N ≤ 100) (e4 : σ k 4 = nI N) (ec : ∀ i, i < 100 → σ (k + 1) i = c i) (hq : q < N) : fX5_badPlace_b11 (n + 1) k (nI q) σ = if (stm c N q).1 = true then fX5_badPlace_b11 n k (nI (stm c N q).2) σ else some (nI (stm c N q).2) := by
  have c' : ¬ nI N ≤ nI q := by rw [ple (by omega) (by omega)]; omega
  have h3 := fdg_le (c q)
  have l0 : (nI (fdg (c q)) = 0) = (fdg (c q) = 0) := by rw [pl0, peq (by omega) (by omega)]
  rw [fX5_badPlace_b11, e4, if_neg c', if_pos (pnin0 (by omega) (show q < 100 by omega)), pc0 (by omega), ec q (by omega), C_digits, pb]
  by_cases z : fdg (c q) = 0
  · rw [if_pos (by rw [l0]; exact z), stm_f (fun w => by omega), if_neg (bff _)]
  · rw [if_neg (by rw [l0]; exact z), stm_t hq (by omega), padd, pinc, pnl, pinc, pnl]
    exact C_seg hN e4 ec (by omega) (fdg (c q)) 4096 (q + 1) (by omega) (by omega) (by omega)
theorem C_badPlace {σ : nS} {k N : Nat} {c : Nat → Int32} (hN : N ≤ 100) (e4 : σ k 4 = nI N) (ec : ∀ i, i < 100 → σ (k + 1) i = c i) : (∀ K n q, good c N K q → K < n → fX5_badPlace_b11 n k (nI q) σ = some (-1)) ∧ ∀ i K n q, bad c N i K q → K < n → fX5_badPlace_b11 n k (nI q) σ = some (nI i) := by
  refine ⟨?_, ?_⟩
  · intro K
    induction K with
    | zero =>
      intro n q h hn
      match n, hn with
      | n + 1, _ =>
        have h : q = N := h
        subst h
        rw [fX5_badPlace_b11, e4, if_pos (by rw [ple (by omega) (by omega)]; omega)]
    | succ K ih =>
      intro n q h hn
      match n, hn with
      | n + 1, hn =>
        obtain ⟨h1, h2, h3⟩ := h
        rw [C_bp1 hN e4 ec h1, if_pos h2]
        exact ih n _ h3 (by omega)
  · intro i K
    induction K with
    | zero =>
      intro n q h hn
      match n, hn with
      | n + 1, _ =>
        obtain ⟨h1, h2⟩ := h
        rw [C_bp1 hN e4 ec h1, h2, if_neg (bff _)]
    | succ K ih =>
      intro n q h hn
      match n, hn with
      | n + 1, hn =>
        obtain ⟨h1, h2, h3⟩ := h
        rw [C_bp1 hN e4 ec h1, if_pos h2]
        exact ih n _ h3 (by omega)
