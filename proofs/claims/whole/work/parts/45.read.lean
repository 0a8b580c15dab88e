/-! PURE 36: the class reads what is told -/
def TC (τ : nS) (k T : Nat) (aa bb ss : Nat → Nat) : Prop := T ≤ 33 ∧ τ k 4 = nI (3 * T) ∧ ∀ t, t < T → τ (k + 1) (3 * t) = nI (aa t) ∧ τ (k + 1) (3 * t + 1) = nI (bb t) ∧ τ (k + 1) (3 * t + 2) = nI (ss t) ∧ aa t < 8 ∧ bb t < 8 ∧ ss t < 2
theorem TC.frame {τ υ : nS} {k T : Nat} {aa bb ss : Nat → Nat} (h : TC τ k T aa bb ss) (e : υ k = τ k) (e2 : υ (k + 1) = τ (k + 1)) : TC υ k T aa bb ss := by
  unfold TC at h ⊢
  rw [e, e2]; exact h
def Rj (R : Nat → Nat) (ra rb : Nat) : Nat → Nat := fun j => if R j = ra ∨ R j = rb then (if rb < ra then rb else ra) else R j
theorem C_join {τ : nS} {R : Nat → Nat} {ra rb : Nat} (ha : ra < 8) (hb : rb < 8) (hR : ∀ j, j < 8 → τ 60 j = nI (R j) ∧ R j < 8) : ∃ υ, fX2_join (nI ra) (nI rb) τ = some ((), υ) ∧ (∀ j, j < 8 → υ 60 j = nI (Rj R ra rb j)) ∧ ∀ j, j ≠ 60 → υ j = τ j := by
  have emn : (if nI rb < nI ra then nI rb else nI ra) = nI (if rb < ra then rb else ra) := by
    have l : (nI rb < nI ra) = (rb < ra) := plt (by omega) (by omega)
    by_cases q : rb < ra
    · rw [if_pos (by rw [l]; exact q), if_pos q]
    · rw [if_neg (by rw [l]; exact q), if_neg q]
  rw [fX2_join, emn, pnl, pl0]
  refine ploopS (fun n i υ => fX2_join_b9 n (nI ra) (nI rb) (nI (if rb < ra then rb else ra)) (nI i) υ) (fun i υ => (∀ j, j < i → υ 60 j = nI (Rj R ra rb j)) ∧ (∀ j, i ≤ j → j < 8 → υ 60 j = nI (R j)) ∧ ∀ j, j ≠ 60 → υ j = τ j) (fun o => ∃ υ, o = some ((), υ) ∧ (∀ j, j < 8 → υ 60 j = nI (Rj R ra rb j)) ∧ ∀ j, j ≠ 60 → υ j = τ j) 8
    (fun n υ hI => ?_) (fun n i υ hi hI hk => ?_) 4096 0 τ (by omega) (by omega) ⟨fun j h => by omega, fun j _ h => (hR j h).1, fun _ _ => rfl⟩
  · rw [fX2_join_b9, if_pos (by decide)]
    exact ⟨υ, rfl, hI.1, hI.2.2⟩
  · obtain ⟨i1, i2, i3⟩ := hI
    have d' : ¬ (8 : Int32) ≤ nI i := by rw [pl8, ple (by omega) (by omega)]; omega
    have hRi := (hR i hi).2
    have l1 : (nI (R i) = nI ra) = (R i = ra) := peq (by omega) (by omega)
    have l2 : (nI (R i) = nI rb) = (R i = rb) := peq (by omega) (by omega)
    have go : (R i = ra ∨ R i = rb) → ((∀ j, j < i + 1 → (nU υ 60 (upd (υ 60) i (nI (if rb < ra then rb else ra)))) 60 j = nI (Rj R ra rb j)) ∧ (∀ j, i + 1 ≤ j → j < 8 → (nU υ 60 (upd (υ 60) i (nI (if rb < ra then rb else ra)))) 60 j = nI (R j)) ∧ ∀ j, j ≠ 60 → (nU υ 60 (upd (υ 60) i (nI (if rb < ra then rb else ra)))) j = τ j) := by
      intro q
      refine ⟨fun j hj => ?_, fun j h1 h2 => ?_, fun j hj => by rw [nU_n _ _ hj]; exact i3 j hj⟩
      · rw [nU_s]
        by_cases y : j = i
        · subst y; rw [upd_s, Rj, if_pos q]
        · rw [upd_n _ _ y]; exact i1 j (by omega)
      · rw [nU_s, upd_n _ _ (by omega)]; exact i2 j (by omega) h2
    rw [fX2_join_b9, if_neg d', if_pos (pnd hi), pcd hi, i2 i (by omega) hi]
    by_cases q1 : R i = ra
    · rw [if_pos (by rw [l1]; exact q1), if_pos (pnd hi), pnl, pnl, pinc]
      exact hk _ (go (Or.inl q1))
    · rw [if_neg (by rw [l1]; exact q1), if_pos (pnd hi)]
      by_cases q2 : R i = rb
      · rw [if_pos (by rw [l2]; exact q2), if_pos (pnd hi), pnl, pnl, pinc]
        exact hk _ (go (Or.inr q2))
      · rw [if_neg (by rw [l2]; exact q2), pnl, pinc]
        refine hk υ ⟨fun j hj => ?_, fun j h1 h2 => i2 j (by omega) h2, i3⟩
        by_cases y : j = i
        · subst y; rw [i2 j (by omega) hi, Rj, if_neg (fun z => z.elim q1 q2)]
        · exact i1 j (by omega)
/-- the logic of joins -/
def JR (F : (Nat → Nat) → Bool) (aa bb ss : Nat → Nat) (R : Nat → Nat) (t : Nat) : Prop := (∀ j, j < 8 → R j ≤ j ∧ R (R j) = R j) ∧ (∀ g, F g = true → ∀ j, j < 8 → g (R j) = g j) ∧ ∀ t', t' < t → ss t' = 1 → R (aa t') = R (bb t')
theorem JR_join {F : (Nat → Nat) → Bool} {aa bb ss R : Nat → Nat} {t : Nat} (h : JR F aa bb ss R t) (ha : aa t < 8) (hb : bb t < 8) (hF : ∀ g, F g = true → g (aa t) = g (bb t)) : JR F aa bb ss (Rj R (R (aa t)) (R (bb t))) (t + 1) := by
  obtain ⟨h1, h2, h3⟩ := h
  obtain ⟨a1, a2⟩ := h1 _ ha
  obtain ⟨b1, b2⟩ := h1 _ hb
  have hmn : (if R (bb t) < R (aa t) then R (bb t) else R (aa t)) ≤ R (aa t) ∧ (if R (bb t) < R (aa t) then R (bb t) else R (aa t)) ≤ R (bb t) ∧ ((if R (bb t) < R (aa t) then R (bb t) else R (aa t)) = R (aa t) ∨ (if R (bb t) < R (aa t) then R (bb t) else R (aa t)) = R (bb t)) := by
    split
    · exact ⟨by omega, by omega, Or.inr rfl⟩
    · exact ⟨by omega, by omega, Or.inl rfl⟩
  generalize hm : (if R (bb t) < R (aa t) then R (bb t) else R (aa t)) = mn at hmn
  obtain ⟨m1, m2, m3⟩ := hmn
  have hRm : R mn = mn := by rcases m3 with q | q <;> rw [q] <;> assumption
  have eR : ∀ j, Rj R (R (aa t)) (R (bb t)) j = if R j = R (aa t) ∨ R j = R (bb t) then mn else R j := fun j => by rw [Rj, hm]
  refine ⟨fun j hj => ?_, fun g hg j hj => ?_, fun t' ht' hs => ?_⟩
  · obtain ⟨j1, j2⟩ := h1 j hj
    rw [eR j]
    by_cases q : R j = R (aa t) ∨ R j = R (bb t)
    · rw [if_pos q]
      refine ⟨by rcases q with q | q <;> omega, ?_⟩
      have hc : R mn = R (aa t) ∨ R mn = R (bb t) := by rw [hRm]; exact m3
      rw [eR mn, if_pos hc]
    · rw [if_neg q]
      refine ⟨j1, ?_⟩
      have hc : ¬ (R (R j) = R (aa t) ∨ R (R j) = R (bb t)) := by rw [j2]; exact q
      rw [eR (R j), if_neg hc, j2]
  · rw [eR j]
    by_cases q : R j = R (aa t) ∨ R j = R (bb t)
    · rw [if_pos q]
      have e1 := h2 g hg _ ha
      have e2 := h2 g hg _ hb
      have e3 := h2 g hg j hj
      have e4 := hF g hg
      rcases m3 with w | w <;> rcases q with q | q
      · rw [w, ← q]; exact e3
      · rw [w, e1, e4, ← e2, ← q]; exact e3
      · rw [w, e2, ← e4, ← e1, ← q]; exact e3
      · rw [w, ← q]; exact e3
    · rw [if_neg q]; exact h2 g hg j hj
  · by_cases q : t' = t
    · subst q
      rw [eR, eR, if_pos (Or.inl rfl), if_pos (Or.inr rfl)]
    · have := h3 t' (by omega) hs
      rw [eR, eR, this]
theorem JR_skip {F : (Nat → Nat) → Bool} {aa bb ss R : Nat → Nat} {t : Nat} (h : JR F aa bb ss R t) (hs : ¬ ss t = 1) : JR F aa bb ss R (t + 1) := by
  obtain ⟨h1, h2, h3⟩ := h
  refine ⟨h1, h2, fun t' ht' q => ?_⟩
  by_cases c : t' = t
  · subst c; exact absurd q hs
  · exact h3 t' (by omega) q
def Bj (Bn : Nat → Nat) (ra rb : Nat) : Nat → Nat := updN (updN Bn ra (Bn ra ||| 2 ^ rb)) rb ((updN Bn ra (Bn ra ||| 2 ^ rb)) rb ||| 2 ^ ra)
theorem Bj_bit (Bn : Nat → Nat) (ra rb x y : Nat) : (Bj Bn ra rb x).testBit y = true ↔ ((Bn x).testBit y = true ∨ (x = ra ∧ y = rb) ∨ (x = rb ∧ y = ra)) := by
  unfold Bj
  by_cases c1 : x = rb
  · subst c1
    rw [updN_s, Nat.testBit_or, Nat.testBit_two_pow, Bool.or_eq_true, decide_eq_true_eq]
    by_cases c2 : x = ra
    · subst c2
      rw [updN_s, Nat.testBit_or, Nat.testBit_two_pow, Bool.or_eq_true, decide_eq_true_eq]
      constructor
      · rintro ((h | h) | h)
        · exact Or.inl h
        · exact Or.inr (Or.inl ⟨rfl, h.symm⟩)
        · exact Or.inr (Or.inl ⟨rfl, h.symm⟩)
      · rintro (h | ⟨-, h⟩ | ⟨-, h⟩)
        · exact Or.inl (Or.inl h)
        · exact Or.inr h.symm
        · exact Or.inr h.symm
    · rw [updN_n _ _ c2]
      constructor
      · rintro (h | h)
        · exact Or.inl h
        · exact Or.inr (Or.inr ⟨rfl, h.symm⟩)
      · rintro (h | ⟨h, -⟩ | ⟨-, h⟩)
        · exact Or.inl h
        · exact absurd h c2
        · exact Or.inr h.symm
  · rw [updN_n _ _ c1]
    by_cases c2 : x = ra
    · subst c2
      rw [updN_s, Nat.testBit_or, Nat.testBit_two_pow, Bool.or_eq_true, decide_eq_true_eq]
      constructor
      · rintro (h | h)
        · exact Or.inl h
        · exact Or.inr (Or.inl ⟨rfl, h.symm⟩)
      · rintro (h | ⟨-, h⟩ | ⟨h, -⟩)
        · exact Or.inl h
        · exact Or.inr h.symm
        · exact absurd h c1
    · rw [updN_n _ _ c2]
      constructor
      · exact fun h => Or.inl h
      · rintro (h | ⟨h, -⟩ | ⟨h, -⟩)
        · exact h
        · exact absurd h c2
        · exact absurd h c1
theorem Bj_lt {Bn : Nat → Nat} {ra rb : Nat} (ha : ra < 8) (hb : rb < 8) (h : ∀ j, j < 8 → Bn j < 256) : ∀ j, j < 8 → Bj Bn ra rb j < 256 := by
  intro j hj
  have p1 : 2 ^ rb < 2 ^ 8 := Nat.pow_lt_pow_right (by omega) hb
  have p2 : 2 ^ ra < 2 ^ 8 := Nat.pow_lt_pow_right (by omega) ha
  have q1 : Bn ra ||| 2 ^ rb < 2 ^ 8 := Nat.or_lt_two_pow (h ra ha) p1
  unfold Bj
  by_cases c1 : j = rb
  · subst c1
    rw [updN_s]
    refine Nat.or_lt_two_pow (n := 8) ?_ p2
    by_cases c2 : j = ra
    · subst c2; rw [updN_s]; exact q1
    · rw [updN_n _ _ c2]; exact h j hj
  · rw [updN_n _ _ c1]
    by_cases c2 : j = ra
    · subst c2; rw [updN_s]; exact q1
    · rw [updN_n _ _ c2]; exact h j hj
def JB (F : (Nat → Nat) → Bool) (aa bb ss R Bn : Nat → Nat) (t : Nat) : Prop := (∀ j, j < 8 → Bn j < 256) ∧ (∀ x y, (Bn x).testBit y = true → (Bn y).testBit x = true ∧ x < 8 ∧ y < 8 ∧ R x = x ∧ R y = y ∧ ∀ g, F g = true → ¬ g x = g y) ∧ ∀ t', t' < t → ss t' = 0 → (Bn (R (aa t'))).testBit (R (bb t')) = true
theorem JB_bar {F : (Nat → Nat) → Bool} {aa bb ss R Bn : Nat → Nat} {t T : Nat} (hR : JR F aa bb ss R T) (h : JB F aa bb ss R Bn t) (ha : aa t < 8) (hb : bb t < 8) (hF : ∀ g, F g = true → ¬ g (aa t) = g (bb t)) : JB F aa bb ss R (Bj Bn (R (aa t)) (R (bb t))) (t + 1) := by
  obtain ⟨h1, h2, h3⟩ := h
  obtain ⟨a1, a2⟩ := hR.1 _ ha
  obtain ⟨b1, b2⟩ := hR.1 _ hb
  have hne : ∀ g, F g = true → ¬ g (R (aa t)) = g (R (bb t)) := fun g hg => by
    rw [hR.2.1 g hg _ ha, hR.2.1 g hg _ hb]; exact hF g hg
  refine ⟨Bj_lt (by omega) (by omega) h1, fun x y hxy => ?_, fun t' ht' hs => ?_⟩
  · rw [Bj_bit]
    rcases (Bj_bit _ _ _ _ _).mp hxy with q | ⟨q1, q2⟩ | ⟨q1, q2⟩
    · obtain ⟨r1, r2⟩ := h2 x y q
      exact ⟨Or.inl r1, r2⟩
    · subst q1 q2
      exact ⟨Or.inr (Or.inr ⟨rfl, rfl⟩), by omega, by omega, a2, b2, hne⟩
    · subst q1 q2
      exact ⟨Or.inr (Or.inl ⟨rfl, rfl⟩), by omega, by omega, b2, a2, fun g hg q => hne g hg q.symm⟩
  · rw [Bj_bit]
    by_cases c : t' = t
    · subst c; exact Or.inr (Or.inl ⟨rfl, rfl⟩)
    · exact Or.inl (h3 t' (by omega) hs)
theorem JB_skip {F : (Nat → Nat) → Bool} {aa bb ss R Bn : Nat → Nat} {t : Nat} (h : JB F aa bb ss R Bn t) (hs : ¬ ss t = 0) : JB F aa bb ss R Bn (t + 1) := by
  obtain ⟨h1, h2, h3⟩ := h
  refine ⟨h1, h2, fun t' ht' q => ?_⟩
  by_cases c : t' = t
  · subst c; exact absurd q hs
  · exact h3 t' (by omega) q
theorem C_isGainsaid {τ : nS} {Bn : Nat → Nat} (h : ∀ j, j < 8 → τ 61 j = nI (Bn j) ∧ Bn j < 256) : fX2_isGainsaid τ = some (bi (anyb (fun j => (Bn j).testBit j) 8)) := by
  rw [fX2_isGainsaid]
  generalize hg : (fun j => (Bn j).testBit j) = g
  have eg : ∀ j, g j = (Bn j).testBit j := fun j => by rw [← hg]
  have st : ∀ n j, j < 8 → fX2_isGainsaid_b2 (n + 1) (nI j) τ = if g j = true then some 1 else fX2_isGainsaid_b2 n (nI (j + 1)) τ := by
    intro n j hj
    have c' : ¬ (8 : Int32) ≤ nI j := by rw [pl8, ple (by omega) (by omega)]; omega
    obtain ⟨e1, e2⟩ := h j hj
    rw [fX2_isGainsaid_b2, if_neg c', if_pos (pnd hj), pcd hj, e1, C_has e2 hj, pb, eg]
    cases (Bn j).testBit j with
    | false => rw [if_pos bi_f, pnl, pinc]; rfl
    | true => rw [if_neg (by decide)]; rfl
  rcases fstbad (fun j => g j = false) 8 with hA | ⟨m, hm, hbad, hA⟩
  · rw [anyb_f hA]
    exact ploop (fun n j => fX2_isGainsaid_b2 n (nI j) τ) (some (bi false)) 8
      (fun n => by rw [fX2_isGainsaid_b2, if_pos (by decide)]; rfl)
      (fun n j hj => by rw [st n j hj, hA j hj]; rfl) 4096 0 (by omega) (by omega)
  · have hbad : g m = true := by cases q : g m with | true => rfl | false => exact absurd q hbad
    rw [(anyb_iff g 8).mpr ⟨m, hm, hbad⟩]
    exact ploop (fun n j => fX2_isGainsaid_b2 n (nI j) τ) (some (bi true)) m
      (fun n => by rw [st n m hm, hbad]; rfl)
      (fun n j hj => by rw [st n j (by omega), hA j hj]; rfl) 4096 0 (by omega) (by omega)
def RDo (F : (Nat → Nat) → Bool) (aa bb ss : Nat → Nat) (T : Nat) (τ : nS) (o : Option (Int32 × nS)) : Prop := ∃ R Bn υ, o = some (bi (!anyb (fun j => (Bn j).testBit j) 8), υ) ∧ (∀ j, j < 8 → υ 60 j = nI (R j) ∧ υ 61 j = nI (Bn j)) ∧ JR F aa bb ss R T ∧ JB F aa bb ss R Bn T ∧ ∀ j, j ≠ 60 → j ≠ 61 → υ j = τ j
theorem JB_0 {F : (Nat → Nat) → Bool} {aa bb ss R : Nat → Nat} : JB F aa bb ss R (fun _ => 0) 0 := by
  refine ⟨fun j _ => Nat.zero_lt_succ 255, fun x y q => ?_, fun t' h => absurd h (Nat.not_lt_zero t')⟩
  have q : (0 : Nat).testBit y = true := q
  rw [Nat.zero_testBit] at q
  cases q
theorem JR_0 {F : (Nat → Nat) → Bool} {aa bb ss : Nat → Nat} : JR F aa bb ss (fun j => j) 0 :=
  ⟨fun j _ => ⟨Nat.le_refl j, rfl⟩, fun _ _ _ _ => rfl, fun t' h => absurd h (Nat.not_lt_zero t')⟩
theorem C_read88 {τ υ0 : nS} {k T : Nat} {aa bb ss R : Nat → Nat} {F : (Nat → Nat) → Bool} (hv : TC τ k T aa bb ss) (hk : k < 50) (hF1 : ∀ t, t < T → ∀ g, F g = true → tru aa bb ss g t = true) (i1 : ∀ j, j < 8 → υ0 60 j = nI (R j) ∧ υ0 61 j = nI 0) (i2 : JR F aa bb ss R T) (i3 : ∀ j, j ≠ 60 → j ≠ 61 → υ0 j = τ j) : RDo F aa bb ss T τ (fX2_read_b88 4096 k (nI (3 * 0)) υ0) := by
  have hT := hv.1
  refine ploopS (fun n t υ => fX2_read_b88 n k (nI (3 * t)) υ) (fun t υ => ∃ Bn, (∀ j, j < 8 → υ 60 j = nI (R j) ∧ υ 61 j = nI (Bn j)) ∧ JB F aa bb ss R Bn t ∧ ∀ j, j ≠ 60 → j ≠ 61 → υ j = τ j) (RDo F aa bb ss T τ) T
    (fun n υ hJ => ?_) (fun n t υ ht hJ hk' => ?_) 4096 0 υ0 (by omega) (by omega) ⟨fun _ => 0, i1, JB_0, i3⟩
  · obtain ⟨Bn, j1, j2, j3⟩ := hJ
    have hv' : TC υ k T aa bb ss := hv.frame (j3 k (by omega) (by omega)) (j3 (k + 1) (by omega) (by omega))
    rw [fX2_read_b88, hv'.2.1, pa2, if_pos (by rw [ple (by omega) (by omega)]; omega), C_isGainsaid (fun j hj => ⟨(j1 j hj).2, j2.1 j hj⟩), pb]
    refine ⟨R, Bn, υ, ?_, j1, i2, j2, j3⟩
    cases anyb (fun j => (Bn j).testBit j) 8 <;> rfl
  · obtain ⟨Bn, j1, j2, j3⟩ := hJ
    have hv' : TC υ k T aa bb ss := hv.frame (j3 k (by omega) (by omega)) (j3 (k + 1) (by omega) (by omega))
    obtain ⟨v1, v2, v3, b1, b2, b3⟩ := hv'.2.2 t ht
    obtain ⟨ra1, ra2⟩ := i2.1 _ b1
    obtain ⟨rb1, rb2⟩ := i2.1 _ b2
    have n0 : nin (nI (3 * t)) 100 := pnin0 (by omega) (by omega)
    have n1 : nin (nI (3 * t + 1)) 100 := pnin0 (by omega) (by omega)
    have n2 : nin (nI (3 * t + 2)) 100 := pnin0 (by omega) (by omega)
    have t0 : (nI (3 * t)).toNatClampNeg = 3 * t := pc0 (by omega)
    have t1 : (nI (3 * t + 1)).toNatClampNeg = 3 * t + 1 := pc0 (by omega)
    have t2 : (nI (3 * t + 2)).toNatClampNeg = 3 * t + 2 := pc0 (by omega)
    have l4 : (nI (ss t) = 0) = (ss t = 0) := by rw [pl0, peq (by omega) (by omega)]
    rw [fX2_read_b88, hv'.2.1, pa2, if_neg (by rw [ple (by omega) (by omega)]; omega), if_pos n0, t0, v1, if_pos (pnd b1), pcd b1, (j1 _ b1).1, pnl, pinc, if_pos n1, t1, v2, if_pos (pnd b2), pcd b2, (j1 _ b2).1, pnl, if_pos n2, t2, v3]
    by_cases q : ss t = 0
    · have hRa : R (aa t) < 8 := by omega
      have hRb : R (bb t) < 8 := by omega
      rw [if_pos (by rw [l4]; exact q), if_pos (pnd hRa), if_pos (pnd hRa), pcd hRa, pnl, if_pos (pnd hRb), if_pos (pnd hRb), pcd hRb, pnl, pnl, pa3t, p2x hRa, p2x hRb, (j1 _ hRa).2, por]
      refine hk' _ ⟨Bj Bn (R (aa t)) (R (bb t)), fun j hj => ⟨?_, ?_⟩, JB_bar i2 j2 b1 b2 (fun g hg => ?_), fun j h1 h2 => ?_⟩
      · rw [nU_n _ _ (by omega), nU_n _ _ (by omega)]; exact (j1 j hj).1
      · rw [nU_s, nU_s]
        unfold Bj
        by_cases c1 : j = R (bb t)
        · rw [c1, upd_s, updN_s]
          by_cases c2 : R (bb t) = R (aa t)
          · rw [c2, upd_s, updN_s, por]
          · rw [upd_n _ _ c2, updN_n _ _ c2, (j1 _ hRb).2, por]
        · rw [upd_n _ _ c1, updN_n _ _ c1]
          by_cases c2 : j = R (aa t)
          · rw [c2, upd_s, updN_s]
          · rw [upd_n _ _ c2, updN_n _ _ c2]; exact (j1 j hj).2
      · have := hF1 t ht g hg
        rw [tru, q] at this
        simpa using this
      · rw [nU_n _ _ h2, nU_n _ _ h2]; exact j3 j h1 h2
    · rw [if_neg (by rw [l4]; exact q), pnl, pa3t]
      exact hk' υ ⟨Bn, j1, JB_skip j2 q, j3⟩
theorem C_read30 {τ υ0 : nS} {k T : Nat} {aa bb ss : Nat → Nat} {F : (Nat → Nat) → Bool} (hv : TC τ k T aa bb ss) (hk : k < 50) (hF1 : ∀ t, t < T → ∀ g, F g = true → tru aa bb ss g t = true) (i1 : ∀ j, j < 8 → υ0 60 j = nI j ∧ υ0 61 j = nI 0) (i3 : ∀ j, j ≠ 60 → j ≠ 61 → υ0 j = τ j) : RDo F aa bb ss T τ (fX2_read_b30 4096 k (nI (3 * 0)) υ0) := by
  have hT := hv.1
  have z3 : (0 : Int32) = nI (3 * 0) := by decide
  refine ploopS (fun n t υ => fX2_read_b30 n k (nI (3 * t)) υ) (fun t υ => ∃ R, (∀ j, j < 8 → υ 60 j = nI (R j) ∧ υ 61 j = nI 0) ∧ JR F aa bb ss R t ∧ ∀ j, j ≠ 60 → j ≠ 61 → υ j = τ j) (RDo F aa bb ss T τ) T
    (fun n υ hI => ?_) (fun n t υ ht hI hk' => ?_) 4096 0 υ0 (by omega) (by omega) ⟨fun j => j, i1, JR_0, i3⟩
  · obtain ⟨R, i1, i2, i3⟩ := hI
    have hv' : TC υ k T aa bb ss := hv.frame (i3 k (by omega) (by omega)) (i3 (k + 1) (by omega) (by omega))
    rw [fX2_read_b30, hv'.2.1, pa2, if_pos (by rw [ple (by omega) (by omega)]; omega), z3]
    exact C_read88 hv hk hF1 i1 i2 i3
  · obtain ⟨R, i1, i2, i3⟩ := hI
    have hv' : TC υ k T aa bb ss := hv.frame (i3 k (by omega) (by omega)) (i3 (k + 1) (by omega) (by omega))
    obtain ⟨v1, v2, v3, b1, b2, b3⟩ := hv'.2.2 t ht
    obtain ⟨ra1, ra2⟩ := i2.1 _ b1
    obtain ⟨rb1, rb2⟩ := i2.1 _ b2
    have n0 : nin (nI (3 * t)) 100 := pnin0 (by omega) (by omega)
    have n1 : nin (nI (3 * t + 1)) 100 := pnin0 (by omega) (by omega)
    have n2 : nin (nI (3 * t + 2)) 100 := pnin0 (by omega) (by omega)
    have t0 : (nI (3 * t)).toNatClampNeg = 3 * t := pc0 (by omega)
    have t1 : (nI (3 * t + 1)).toNatClampNeg = 3 * t + 1 := pc0 (by omega)
    have t2 : (nI (3 * t + 2)).toNatClampNeg = 3 * t + 2 := pc0 (by omega)
    have l4 : (nI (ss t) = 1) = (ss t = 1) := by rw [pl1, peq (by omega) (by omega)]
    rw [fX2_read_b30, hv'.2.1, pa2, if_neg (by rw [ple (by omega) (by omega)]; omega), if_pos n2, t2, v3]
    by_cases q : ss t = 1
    · obtain ⟨υ', c1, c2, c3⟩ := C_join (R := R) (show R (aa t) < 8 by omega) (show R (bb t) < 8 by omega) (fun j hj => ⟨(i1 j hj).1, by have := (i2.1 j hj).1; omega⟩)
      rw [if_pos (by rw [l4]; exact q), if_pos n0, t0, v1, if_pos (pnd b1), pcd b1, pinc, if_pos n1, t1, v2, if_pos (pnd b2), pcd b2, (i1 _ b1).1, (i1 _ b2).1, c1, pb2, pnl, pa3t]
      refine hk' υ' ⟨_, fun j hj => ⟨c2 j hj, by rw [c3 61 (by omega)]; exact (i1 j hj).2⟩, JR_join i2 b1 b2 (fun g hg => ?_), fun j h1 h2 => by rw [c3 j h1]; exact i3 j h1 h2⟩
      have := hF1 t ht g hg
      rw [tru, q] at this
      simpa using this
    · rw [if_neg (by rw [l4]; exact q), pnl, pa3t]
      exact hk' υ ⟨R, i1, JR_skip i2 q, i3⟩

theorem C_read {τ : nS} {k T : Nat} {aa bb ss : Nat → Nat} (hv : TC τ k T aa bb ss) (hk : k < 50) : RDo (ful aa bb ss T) aa bb ss T τ (fX2_read k τ) := by
  have hT := hv.1
  generalize hFF : ful aa bb ss T = F
  have hF1 : ∀ t, t < T → ∀ g, F g = true → tru aa bb ss g t = true := fun t ht g hg => by
    rw [← hFF] at hg; exact (allb_iff _ T).mp hg t ht
  have z3 : (0 : Int32) = nI (3 * 0) := by decide
  rw [fX2_read, pl0]
  refine ploopS (fun n i υ => fX2_read_b2 n k (nI i) υ) (fun i υ => (∀ j, j < i → υ 60 j = nI j ∧ υ 61 j = nI 0) ∧ ∀ j, j ≠ 60 → j ≠ 61 → υ j = τ j) (RDo F aa bb ss T τ) 8
    (fun n υ hI => ?_) (fun n i υ hi hI hk' => ?_) 4096 0 τ (by omega) (by omega) ⟨fun j h => by omega, fun _ _ _ => rfl⟩
  · rw [fX2_read_b2, if_pos (by decide), z3]
    exact C_read30 hv hk hF1 hI.1 hI.2
  · have d' : ¬ (8 : Int32) ≤ nI i := by rw [pl8, ple (by omega) (by omega)]; omega
    rw [fX2_read_b2, if_neg d', if_pos (pnd hi), pcd hi, pnl, if_pos (pnd hi), pnl, pnl, pinc]
    refine hk' _ ⟨fun j hj => ?_, fun j h1 h2 => by rw [nU_n _ _ h2, nU_n _ _ h1]; exact hI.2 j h1 h2⟩
    by_cases y : j = i
    · subst y
      exact ⟨by rw [nU_n _ _ (by omega), nU_s, upd_s], by rw [nU_s, upd_s]; rfl⟩
    · exact ⟨by rw [nU_n _ _ (by omega), nU_s, upd_n _ _ y]; exact (hI.1 j (by omega)).1, by rw [nU_s, upd_n _ _ y, nU_n _ _ (by omega)]; exact (hI.1 j (by omega)).2⟩
