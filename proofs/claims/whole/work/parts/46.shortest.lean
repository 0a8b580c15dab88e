/-! PURE 37: shortest -/
theorem LB_of {T : Nat} {aa bb ss R Bn : Nat → Nat} (hab : ∀ t, t < T → aa t < 8 ∧ bb t < 8 ∧ ss t < 2) (h1 : JR (ful aa bb ss T) aa bb ss R T) (h2 : JB (ful aa bb ss T) aa bb ss R Bn T) (h3 : anyb (fun j => (Bn j).testBit j) 8 = false) : LB (ful aa bb ss T) R Bn := by
  refine ⟨h1.2.1, fun g hg x y hx hy hb => (h2.2.1 x y hb).2.2.2.2.2 g hg, fun x y hx hy hb => ?_, fun g ha hb => ?_, fun x hx => ?_⟩
  · obtain ⟨q1, q2, q3, q4, q5, -⟩ := h2.2.1 x y hb
    exact ⟨q1, q4, q5⟩
  · refine (allb_iff _ T).mpr (fun t ht => ?_)
    obtain ⟨b1, b2, b3⟩ := hab t ht
    rw [tru, decide_eq_true_eq]
    by_cases q : ss t = 1
    · have e : g (aa t) = g (bb t) := by
        rw [ha _ b1, ha _ b2, h1.2.2 t ht q]
      rw [decide_eq_true q, decide_eq_true e]
    · have q0 : ss t = 0 := by omega
      have hbit := h2.2.2 t ht q0
      obtain ⟨-, q2, q3, -⟩ := h2.2.1 _ _ hbit
      have e : ¬ g (aa t) = g (bb t) := by
        rw [ha _ b1, ha _ b2]; exact hb _ _ q2 q3 hbit
      rw [decide_eq_false q, decide_eq_false e]
  · cases q : (Bn x).testBit x with
    | false => rfl
    | true =>
      have : anyb (fun j => (Bn j).testBit j) 8 = true := (anyb_iff _ 8).mpr ⟨x, hx, q⟩
      rw [h3] at this; cases this
/-- what the reference's list needs of what there is -/
def MC (κ : nS) (d T : Nat) (aa bb ss : Nat → Nat) : Prop := TV κ d T aa bb ss ∧ κ 63 13 = nI d
theorem MC.frame {κ κ' : nS} {d T : Nat} {aa bb ss : Nat → Nat} (h : MC κ d T aa bb ss) (e : ∀ j, j ≠ 71 → κ' j = κ j) : MC κ' d T aa bb ss := by
  unfold MC TV at h ⊢
  rw [e 76 (by omega), e 77 (by omega), e 63 (by omega)]; exact h
theorem M_step {κ : nS} {d T n N : Nat} {aa bb ss : Nat → Nat} {y : Int32} (hd : d < 8) (hn : n ≤ 8) (hm : MC κ d T aa bb ss) (hy : y = -1 ∨ ∃ k, k < 8 ∧ y = nI k) :
    ∃ κ', (∀ j, j ≠ 71 → κ' j = κ j) ∧ (sol (ful aa bb ss T) (fun m => decide (m = n)) n 8 0 (fun _ => 0) = none → fX6_shortest_b111 (N + 1) y (nI n) κ = fX6_shortest_b111 N y (nI (n + 1)) κ') ∧
      ∀ g, sol (ful aa bb ss T) (fun m => decide (m = n)) n 8 0 (fun _ => 0) = some g → ∃ r, fX6_shortest_b111 (N + 1) y (nI n) κ = some (r, κ') ∧ (y = -1 → r = nI n) ∧ ∀ k, k < 8 → y = nI k → r = nI (g k) := by
  obtain ⟨v, κ', a1, a2, a3, a4, a5⟩ := M_isListed hd hn 8 20 0 0 (fun _ => 0) κ (by omega) (by omega) hm.1 hm.2 (fun j h => by omega) (fun _ => Nat.zero_lt_succ 99) (by omega) (fun t _ h => absurd h (Nat.not_lt_zero _))
  have c' : ¬ (8 : Int32) < nI n := by rw [pl8, plt (by omega) (by omega)]; omega
  refine ⟨κ', a5, fun h => ?_, fun g h => ?_⟩
  · rw [fX6_shortest_b111, if_neg c', pl0, a1, pb2, a3 h, if_pos pl0, pnl, pinc]
  · obtain ⟨w1, w2⟩ := a2 g h
    have hv : ¬ v = nI 0 := by rw [w1]; decide
    rcases hy with rfl | ⟨k, hk, rfl⟩
    · refine ⟨nI n, ?_, fun _ => rfl, fun k hk q => ?_⟩
      · rw [fX6_shortest_b111, if_neg c', pl0, a1, pb2, if_neg hv, if_neg (by decide)]
      · exfalso
        have : ¬ nI k < 0 := by rw [pneg (by omega)]; simp
        rw [← q] at this
        exact this (by decide)
    · refine ⟨nI (g k), ?_, fun q => ?_, fun k' hk' q => ?_⟩
      · rw [fX6_shortest_b111, if_neg c', pl0, a1, pb2, if_neg hv, if_pos (by rw [← pl0, pge0 (by omega)]; trivial), if_pos (pnd hk), pcd hk, w2 k hk]
      · exfalso
        have : ¬ nI k < 0 := by rw [pneg (by omega)]; simp
        rw [q] at this
        exact this (by decide)
      · rw [peq (by omega) (by omega)] at q
        rw [q]
theorem M_end {κ : nS} {N : Nat} {y : Int32} : fX6_shortest_b111 (N + 1) y (nI 9) κ = some (-4, κ) := by
  rw [fX6_shortest_b111, if_pos (by decide)]
theorem M_noneall {d T : Nat} {aa bb ss : Nat → Nat} {y : Int32} (hd : d < 8) (hy : y = -1 ∨ ∃ k, k < 8 ∧ y = nI k) (hF : ∀ g, ful aa bb ss T g = false) : ∀ e N n (κ : nS), n + e = 9 → e < N → MC κ d T aa bb ss → ∃ κ', fX6_shortest_b111 N y (nI n) κ = some (-4, κ') ∧ ∀ j, j ≠ 71 → κ' j = κ j := by
  intro e
  induction e with
  | zero =>
    intro N n κ h1 h2 _
    match N, h2 with
    | N + 1, _ =>
      obtain rfl : n = 9 := by omega
      exact ⟨κ, M_end, fun _ _ => rfl⟩
  | succ e ih =>
    intro N n κ h1 h2 hm
    match N, h2 with
    | N + 1, h2 =>
      obtain ⟨κ', a1, a2, -⟩ := M_step (n := n) (N := N) hd (by omega) hm hy
      obtain ⟨κ2, b1, b2⟩ := ih N (n + 1) κ' (by omega) (by omega) (hm.frame a1)
      exact ⟨κ2, by rw [a2 (sol_none _ _ _ (by omega) (fun g _ => hF g))]; exact b1, fun j hj => (b2 j hj).trans (a1 j hj)⟩
theorem fewest_sync {d T : Nat} {aa bb ss R Bn : Nat → Nat} {y : Int32} (hd : d < 8) (hy : y = -1 ∨ ∃ k, k < 8 ∧ y = nI k) (hL : LB (ful aa bb ss T) R Bn) : ∀ e N n (υ : nS), n + e = 9 → e < N → (∀ t, t < n → ¬ exl (ful aa bb ss T) 8 0 (fun _ => 0) t) → RB υ R Bn →
    ∃ v υ', fX2_fewest_b13 N (nI n) υ = some (v, υ') ∧ (∀ j, j ≠ 62 → υ' j = υ j) ∧
      ((v = -4 ∧ ∀ N' (κ : nS), e < N' → MC κ d T aa bb ss → ∃ κ', fX6_shortest_b111 N' y (nI n) κ = some (-4, κ') ∧ ∀ j, j ≠ 71 → κ' j = κ j) ∨
       ∃ (g : Nat → Nat) (n' : Nat), v = nI n' ∧ n' ≤ 8 ∧ (∀ j, j < 8 → υ' 62 j = nI (g j)) ∧ ∀ N' (κ : nS), e < N' → MC κ d T aa bb ss → ∃ r κ', fX6_shortest_b111 N' y (nI n) κ = some (r, κ') ∧ (y = -1 → r = nI n') ∧ (∀ k, k < 8 → y = nI k → r = nI (g k)) ∧ ∀ j, j ≠ 71 → κ' j = κ j) := by
  intro e
  induction e with
  | zero =>
    intro N n υ h1 h2 _ _
    match N, h2 with
    | N + 1, _ =>
      obtain rfl : n = 9 := by omega
      refine ⟨-4, υ, by rw [fX2_fewest_b13, if_pos (by decide)], fun _ _ => rfl, Or.inl ⟨rfl, fun N' κ hN' _ => ?_⟩⟩
      match N', hN' with
      | N' + 1, _ => exact ⟨κ, M_end, fun _ _ => rfl⟩
  | succ e ih =>
    intro N n υ h1 h2 hx hR
    match N, h2 with
    | N + 1, h2 =>
      have c' : ¬ (8 : Int32) < nI n := by rw [pl8, plt (by omega) (by omega)]; omega
      obtain ⟨v, υ1, a1, a0, a2, a3, a4, a5⟩ := C_classify hL (show n ≤ 8 by omega) 8 20 0 0 (fun _ => 0) υ (by omega) (by omega) hR (fun j h => by omega) (fun _ => Nat.zero_lt_succ 99) (by omega) (by omega) (fun j h => by omega) (fun x y h => by omega) (fun j h => by omega)
      have hAB : sol (ful aa bb ss T) (fun _ => true) n 8 0 (fun _ => 0) = sol (ful aa bb ss T) (fun m => decide (m = n)) n 8 0 (fun _ => 0) := sol_AB 8 0 _ (by omega) hx
      rw [fX2_fewest_b13, if_neg c', pl0, a1, pb2]
      cases q : sol (ful aa bb ss T) (fun _ => true) n 8 0 (fun _ => 0) with
      | none =>
        rw [a3 q, if_pos pl0, pnl, pinc]
        have hx' : ∀ t, t < n + 1 → ¬ exl (ful aa bb ss T) 8 0 (fun _ => 0) t := fun t ht => solA_none 8 0 _ (by omega) q t (by omega)
        obtain ⟨v2, υ2, b1, b2, b3⟩ := ih N (n + 1) υ1 (by omega) (by omega) hx' (hR.frame a5)
        refine ⟨v2, υ2, b1, fun j hj => (b2 j hj).trans (a5 j hj), ?_⟩
        rcases b3 with ⟨r1, r2⟩ | ⟨g, n', r1, r2, r3, r4⟩
        · refine Or.inl ⟨r1, fun N' κ hN' hm => ?_⟩
          match N', hN' with
          | N' + 1, hN' =>
            obtain ⟨κ', s1, s2, -⟩ := M_step (n := n) (N := N') hd (by omega) hm hy
            obtain ⟨κ2, t1, t2⟩ := r2 N' κ' (by omega) (hm.frame s1)
            exact ⟨κ2, by rw [s2 (by rw [← hAB]; exact q)]; exact t1, fun j hj => (t2 j hj).trans (s1 j hj)⟩
        · refine Or.inr ⟨g, n', r1, r2, r3, fun N' κ hN' hm => ?_⟩
          match N', hN' with
          | N' + 1, hN' =>
            obtain ⟨κ', s1, s2, -⟩ := M_step (n := n) (N := N') hd (by omega) hm hy
            obtain ⟨r, κ2, t1, t2, t3, t4⟩ := r4 N' κ' (by omega) (hm.frame s1)
            exact ⟨r, κ2, by rw [s2 (by rw [← hAB]; exact q)]; exact t1, t2, t3, fun j hj => (t4 j hj).trans (s1 j hj)⟩
      | some g =>
        obtain ⟨w1, w2⟩ := a2 g q
        rw [w1, if_neg (by decide)]
        refine ⟨nI n, υ1, rfl, a5, Or.inr ⟨g, n, rfl, by omega, w2, fun N' κ hN' hm => ?_⟩⟩
        match N', hN' with
        | N' + 1, hN' =>
          obtain ⟨κ', s1, -, s3⟩ := M_step (n := n) (N := N') hd (by omega) hm hy
          obtain ⟨r, t1, t2, t3⟩ := s3 g (by rw [← hAB]; exact q)
          exact ⟨r, κ', t1, t2, t3, s1⟩
def okc (σ : nS) (d i : Nat) : Prop := nin (σ 77 (100 * d + i)) (if i % 3 = 2 then 2 else 8)
theorem C_tells {σ : nS} {d T : Nat} (hv : RV σ d (3 * T)) : (fX5_tellsSames (29 + 2 * d) σ = some 1 ∧ ∀ i, i < 3 * T → okc σ d i) ∨ (fX5_tellsSames (29 + 2 * d) σ = some 0 ∧ ∃ m, m < 3 * T ∧ ¬ okc σ d m ∧ ∀ i, i < m → okc σ d i) := by
  obtain ⟨hN, v4, v76, v3, v75, vc⟩ := hv
  have e0 : ¬ ((2 : Int32) < 0) := by decide
  have hmod : (σ (29 + 2 * d) 4 - σ (29 + 2 * d) 4 / (3 : Int32) * (3 : Int32)) = 0 := by
    rw [v4, pl3, pk_rem (by omega) (by omega) (by omega), show 3 * T % 3 = 0 by omega]; rfl
  rw [fX5_tellsSames, if_pos hmod]
  have st : ∀ n t, t < T → fX5_tellsSames_b13 (n + 1) (29 + 2 * d) (nI (3 * t)) σ = if nin (σ 77 (100 * d + 3 * t)) 8 ∧ nin (σ 77 (100 * d + (3 * t + 1))) 8 ∧ nin (σ 77 (100 * d + (3 * t + 2))) 2 then fX5_tellsSames_b13 n (29 + 2 * d) (nI (3 * (t + 1))) σ else some 0 := by
    intro n t ht
    have n0 : nin (nI (3 * t)) 100 := pnin0 (by omega) (by omega)
    have n1 : nin (nI (3 * t + 1)) 100 := pnin0 (by omega) (by omega)
    have n2 : nin (nI (3 * t + 2)) 100 := pnin0 (by omega) (by omega)
    have t0 : (nI (3 * t)).toNatClampNeg = 3 * t := pc0 (by omega)
    have t1 : (nI (3 * t + 1)).toNatClampNeg = 3 * t + 1 := pc0 (by omega)
    have t2 : (nI (3 * t + 2)).toNatClampNeg = 3 * t + 2 := pc0 (by omega)
    rw [fX5_tellsSames_b13, v4, pa2, if_neg (by rw [ple (by omega) (by omega)]; omega), if_pos n2, t2, pnl, if_pos n0, t0, C_isKind, pb, vc (3 * t + 2) (by omega), vc (3 * t) (by omega)]
    cases q1 : decide (nin (σ 77 (100 * d + 3 * t)) 8) with
    | false => rw [if_pos bi_f, if_neg (fun z => of_decide_eq_false q1 z.1)]
    | true =>
      rw [if_neg (by decide), pinc, if_pos n1, t1, C_isKind, pb, vc (3 * t + 1) (by omega)]
      cases q2 : decide (nin (σ 77 (100 * d + (3 * t + 1))) 8) with
      | false => rw [if_pos bi_f, if_neg (fun z => of_decide_eq_false q2 z.2.1)]
      | true =>
        rw [if_neg (by decide)]
        cases q3 : decide (nin (σ 77 (100 * d + (3 * t + 2))) 2) with
        | false =>
          rw [if_neg (fun (z : nin (σ 77 (100 * d + 3 * t)) 8 ∧ nin (σ 77 (100 * d + (3 * t + 1))) 8 ∧ nin (σ 77 (100 * d + (3 * t + 2))) 2) => of_decide_eq_false q3 z.2.2)]
          rcases gfb q3 with e | ⟨e, e'⟩
          · simp only [e, if_true]
          · simp only [e, e', if_false]
        | true =>
          have z1 : ((σ 77 (100 * d + (3 * t + 2))) < 0) = False := by rcases gt2 q3 with e | e <;> rw [e] <;> simp <;> decide
          have z2 : ((σ 77 (100 * d + (3 * t + 2))) ≤ 1) = True := by rcases gt2 q3 with e | e <;> rw [e] <;> simp <;> decide
          rw [if_pos (⟨of_decide_eq_true q1, of_decide_eq_true q2, of_decide_eq_true q3⟩ : nin (σ 77 (100 * d + 3 * t)) 8 ∧ nin (σ 77 (100 * d + (3 * t + 1))) 8 ∧ nin (σ 77 (100 * d + (3 * t + 2))) 2)]
          simp only [z1, z2, if_false, if_true, pnl, pa3t]
  have z3 : (0 : Int32) = nI (3 * 0) := by decide
  rw [z3]
  have tri : ∀ t, (nin (σ 77 (100 * d + 3 * t)) 8 ∧ nin (σ 77 (100 * d + (3 * t + 1))) 8 ∧ nin (σ 77 (100 * d + (3 * t + 2))) 2) ↔ (okc σ d (3 * t) ∧ okc σ d (3 * t + 1) ∧ okc σ d (3 * t + 2)) := by
    intro t
    unfold okc
    rw [if_neg (show ¬ 3 * t % 3 = 2 by omega), if_neg (show ¬ (3 * t + 1) % 3 = 2 by omega), if_pos (show (3 * t + 2) % 3 = 2 by omega)]
  rcases fstbad (fun i => okc σ d i) (3 * T) with hA | ⟨m, hm, hbad, hA⟩
  · refine Or.inl ⟨?_, hA⟩
    exact ploop (fun n t => fX5_tellsSames_b13 n (29 + 2 * d) (nI (3 * t)) σ) (some 1) T
      (fun n => by rw [fX5_tellsSames_b13, v4, pa2, if_pos (by rw [ple (by omega) (by omega)]; omega)])
      (fun n t ht => by rw [st n t ht, if_pos ((tri t).mpr ⟨hA _ (by omega), hA _ (by omega), hA _ (by omega)⟩)]) 4096 0 (by omega) (by omega)
  · refine Or.inr ⟨?_, m, hm, hbad, hA⟩
    rw [← z3]
    have key := ploop (fun n t => fX5_tellsSames_b13 n (29 + 2 * d) (nI (3 * t)) σ) (some 0) (m / 3)
      (fun n => by
        rw [st n (m / 3) (by omega), if_neg]
        intro z
        have z := (tri (m / 3)).mp z
        have : m = 3 * (m / 3) ∨ m = 3 * (m / 3) + 1 ∨ m = 3 * (m / 3) + 2 := by omega
        rcases this with e | e | e
        · rw [e] at hbad; exact hbad z.1
        · rw [e] at hbad; exact hbad z.2.1
        · rw [e] at hbad; exact hbad z.2.2)
      (fun n t ht => by rw [st n t (by omega), if_pos ((tri t).mpr ⟨hA _ (by omega), hA _ (by omega), hA _ (by omega)⟩)]) 4096 0 (by omega) (by omega)
    rw [← z3] at key
    exact key
