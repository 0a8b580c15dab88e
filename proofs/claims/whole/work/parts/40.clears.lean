/-! PURE 31: the reference's search -/
def ga (ok : Nat → Nat → Bool) (G : Nat) : Nat → Nat → Nat → Nat → Int32
  | 0, _, _, _ => -4
  | k + 1, l, u, j => if j = l then enc (gc ok G k l u) else ga ok G k (l + 1) (ux u (gc ok G k l u)) j
theorem ga_s (ok : Nat → Nat → Bool) (G k l u j : Nat) : ga ok G (k + 1) l u j = if j = l then enc (gc ok G k l u) else ga ok G k (l + 1) (ux u (gc ok G k l u)) j := rfl
theorem M_has {σ : nS} {u g : Nat} (hu : u < 256) (hg : g < 8) : fX6_has (nI u) (nI g) σ = some (bi (u.testBit g)) := by
  rw [fX6_has, phas0 _ hu g hg]
  cases u.testBit g <;> rfl
theorem fs_cut {f : Nat → Bool} {n m : Nat} (h : n ≤ m) (hf : ∀ i, n ≤ i → i < m → f i = false) : fs f m = fs f n := by
  cases e : fs f n with
  | none =>
    refine fs_eqn (fun i hi => ?_)
    by_cases c : i < n
    · exact fs_none e i c
    · exact hf i (by omega) hi
  | some k =>
    obtain ⟨a1, a2, a3⟩ := fs_some e
    exact fs_eq (by omega) a2 a3
theorem mqf_cut {f : Nat → Nat} {c : Nat → Bool} {w0 n : Nat} : ∀ m, n ≤ m → (∀ i, n ≤ i → i < m → c i = false) → mqf f c w0 m = mqf f c w0 n := by
  intro m
  induction m with
  | zero => intro h _; rw [show n = 0 by omega]
  | succ m ih =>
    intro h hc
    by_cases e : n = m + 1
    · rw [e]
    · rw [mqf, hc m (by omega) (by omega)]
      simp only [Bool.false_eq_true, if_false]
      exact ih (by omega) (fun i h1 h2 => hc i h1 (by omega))
def FL (σ τ : nS) : Prop := (∀ j, j ≠ 63 → j ≠ 69 → j ≠ 70 → τ j = σ j) ∧ ∀ q, q ≠ 11 → τ 63 q = σ 63 q
theorem FL.rf {σ : nS} : FL σ σ := ⟨fun _ _ _ _ => rfl, fun _ _ => rfl⟩
theorem FL.tr {σ τ υ : nS} (h1 : FL σ τ) (h2 : FL τ υ) : FL σ υ := ⟨fun j a b c => (h2.1 j a b c).trans (h1.1 j a b c), fun q a => (h2.2 q a).trans (h1.2 q a)⟩
theorem M_record {d : Nat} {τ : nS} : ∃ υ, fX6_clears_b27 (fX6_clears d) 4096 (nI 0) τ = some ((), υ) ∧ (∀ j, j < 8 → υ 70 j = τ 69 j) ∧ ∀ j, j ≠ 70 → υ j = τ j := by
  refine ploopS (fun n i τ' => fX6_clears_b27 (fX6_clears d) n (nI i) τ') (fun i τ' => (∀ j, j < i → τ' 70 j = τ 69 j) ∧ ∀ j, j ≠ 70 → τ' j = τ j) (fun o => ∃ υ, o = some ((), υ) ∧ (∀ j, j < 8 → υ 70 j = τ 69 j) ∧ ∀ j, j ≠ 70 → υ j = τ j) 8
    (fun n τ' hI => ?_) (fun n i τ' hi hI hk => ?_) 4096 0 τ (by omega) (by omega) ⟨fun j h => by omega, fun _ _ => rfl⟩
  · rw [fX6_clears_b27, if_pos (by decide)]
    exact ⟨τ', rfl, hI⟩
  · have d' : ¬ (8 : Int32) ≤ nI i := by rw [pl8, ple (by omega) (by omega)]; omega
    rw [fX6_clears_b27, if_neg d', if_pos (pnd hi), if_pos (pnd hi), pcd hi, pnl, pnl, pinc]
    refine hk _ ⟨fun j hj => ?_, fun j hj => ?_⟩
    · rw [nU_s]
      by_cases c : j = i
      · subst c; rw [upd_s, hI.2 69 (by omega)]
      · rw [upd_n _ _ c]; exact hI.1 j (by omega)
    · rw [nU_n _ _ hj]; exact hI.2 j hj
theorem M_clears {r : Nat → Int32} {G P L : Nat} (hw : WF r G P L) : ∀ k d l u n bb (τ : nS), l + k = L → k < d → u < 2 ^ G → n ≤ l → bb ≤ 100 → τ 64 = r → τ 63 11 = nI bb - 1 →
    ∃ υ, fX6_clears d (nI l) (nI u) (nI n) τ = some ((), υ) ∧ (bb ≤ n + mp (cpay r) G k l u → υ 63 11 = nI (n + mp (cpay r) G k l u) ∧ ∀ j, j < L → υ 70 j = if j < l then τ 69 j else ga (cpay r) G k l u j) ∧
      (¬ bb ≤ n + mp (cpay r) G k l u → υ 63 11 = nI bb - 1 ∧ ∀ j, j < L → υ 70 j = τ 70 j) ∧ (∀ j, j < l → υ 69 j = τ 69 j) ∧ FL τ υ := by
  have hG := hw.1
  have hP := hw.2.1
  have hL := hw.2.2.1
  have h28 : 2 ^ G ≤ 2 ^ 8 := Nat.pow_le_pow_right (by omega) hG
  have e0 : r 0 = nI G := hw.2.2.2.1
  have e2 : r 2 = nI L := hw.2.2.2.2.2.1
  intro k
  induction k with
  | zero =>
    intro d l u n bb τ h1 h2 h3 h4 h5 e64 e11
    match d, h2 with
    | d + 1, _ =>
      have hl : nI l = nI L := by rw [peq (by omega) (by omega)]; omega
      rw [fX6_clears, fX6_clears_e]
      simp only [pk2, if_true, tc2, e64, e2, if_pos hl, mp, Nat.add_zero]
      have key : (τ 63 11 < nI n) = (bb ≤ n) := by
        rw [e11, pl1, lt_ti, pk_sub_toInt (by omega) (by omega), pti (by omega)]
        apply propext; omega
      by_cases c : bb ≤ n
      · rw [if_pos (by rw [key]; exact c), pnl, pl0]
        obtain ⟨υ, a1, a2, a3⟩ := M_record (d := d) (τ := nU τ 63 (upd (τ 63) 11 (nI n)))
        rw [a1]
        refine ⟨υ, rfl, fun _ => ⟨?_, fun j hj => ?_⟩, fun q => absurd c q, fun j hj => ?_, ⟨fun j q1 q2 q3 => ?_, fun q hq => ?_⟩⟩
        · rw [a3 63 (by omega), nU_s, upd_s]
        · rw [a2 j (by omega), nU_n _ _ (by omega), if_pos (by omega)]
        · rw [a3 69 (by omega), nU_n _ _ (by omega)]
        · rw [a3 j q3, nU_n _ _ q1]
        · rw [a3 63 (by omega), nU_s, upd_n _ _ hq]
      · rw [if_neg (by rw [key]; exact c)]
        exact ⟨τ, rfl, fun q => absurd q c, fun _ => ⟨e11, fun _ _ => rfl⟩, fun _ _ => rfl, FL.rf⟩
  | succ k ih =>
    intro d l u n bb τ h1 h2 h3 h4 h5 e64 e11
    match d, h2 with
    | d + 1, h2 =>
      have hl : ¬ nI l = nI L := by rw [peq (by omega) (by omega)]; omega
      rw [fX6_clears, fX6_clears_e]
      simp only [pk2, if_true, tc2, e64, e2, if_neg hl]
      generalize hff : (fun g => mp (cpay r) G k (l + 1) (u ||| 2 ^ g)) = f
      have ef : ∀ g, f g = mp (cpay r) G k (l + 1) (u ||| 2 ^ g) := fun g => by rw [← hff]
      generalize hcc : cd (cpay r) G l u = c
      have ec : ∀ g, c g = (decide (g < G) && (cpay r l g && !u.testBit g)) := fun g => by rw [← hcc]; rfl
      have fle : ∀ g, f g ≤ k := fun g => by rw [ef]; exact mp_le _ _ _ _ _
      have mle : ∀ i, mqf f c 0 i ≤ k + 1 := fun i => mqf_le (by omega) i (fun g _ _ => by have := fle g; omega)
      have w0le := mp_le (cpay r) G k (l + 1) u
      have eT : mp (cpay r) G (k + 1) l u = if mqf f c 0 G < mp (cpay r) G k (l + 1) u then mp (cpay r) G k (l + 1) u else mqf f c 0 G := by
        rw [mp, hff, hcc, mqf_cut 8 hG (fun i h1 _ => by rw [ec, decide_eq_false (by omega), Bool.false_and]), mqf_max]
      have egc : gc (cpay r) G k l u = fs (fun g => c g && decide (1 + f g = mp (cpay r) G (k + 1) l u)) G := by
        rw [gc, hcc, fs_cut hG (fun i h1 _ => by rw [ec, decide_eq_false (by omega), Bool.false_and, Bool.false_and])]
        exact fs_congr (fun i _ => by rw [ef])
      rw [pl0]
      refine ploopS (fun m i τ' => fX6_clears_b58 (fX6_clears d) m (nI l) (nI u) (nI n) (nI i) τ')
        (fun i τ' => (∀ j, j < l → τ' 69 j = τ 69 j) ∧ FL τ τ' ∧ ((0 < mqf f c 0 i ∧ bb ≤ n + mqf f c 0 i) → ∃ g, fs (fun g => c g && decide (1 + f g = mqf f c 0 i)) i = some g ∧ τ' 63 11 = nI (n + mqf f c 0 i) ∧ ∀ j, j < L → τ' 70 j = if j < l then τ 69 j else if j = l then nI g else ga (cpay r) G k (l + 1) (u ||| 2 ^ g) j) ∧
          (¬ (0 < mqf f c 0 i ∧ bb ≤ n + mqf f c 0 i) → τ' 63 11 = nI bb - 1 ∧ ∀ j, j < L → τ' 70 j = τ 70 j))
        (fun o => ∃ υ, o = some ((), υ) ∧ (bb ≤ n + mp (cpay r) G (k + 1) l u → υ 63 11 = nI (n + mp (cpay r) G (k + 1) l u) ∧ ∀ j, j < L → υ 70 j = if j < l then τ 69 j else ga (cpay r) G (k + 1) l u j) ∧
          (¬ bb ≤ n + mp (cpay r) G (k + 1) l u → υ 63 11 = nI bb - 1 ∧ ∀ j, j < L → υ 70 j = τ 70 j) ∧ (∀ j, j < l → υ 69 j = τ 69 j) ∧ FL τ υ) G
        (fun m τ' hI => ?_) (fun m i τ' hi hI hk => ?_) 4096 0 τ (by omega) (by omega) ⟨fun _ _ => rfl, FL.rf, fun q => absurd q.1 (by rw [mqf]; omega), fun _ => ⟨e11, fun _ _ => rfl⟩⟩
      · obtain ⟨i1, i2, i3, i4⟩ := hI
        have e64' : τ' 64 = r := by rw [i2.1 64 (by omega) (by omega) (by omega)]; exact e64
        have c' : nI G ≤ nI G := by rw [ple (by omega) (by omega)]; omega
        rw [fX6_clears_b58]
        simp only [pk0, if_true, tc0, e64', e0, if_pos c', if_pos (pnd (show l < 8 by omega)), pcd (show l < 8 by omega), pnl, pinc]
        have hmG := mle G
        -- what is the best so far
        obtain ⟨bb', hb1, hb2, hb3⟩ : ∃ bb', τ' 63 11 = nI bb' - 1 ∧ ((0 < mqf f c 0 G ∧ bb ≤ n + mqf f c 0 G) → bb' = n + mqf f c 0 G + 1) ∧ (¬ (0 < mqf f c 0 G ∧ bb ≤ n + mqf f c 0 G) → bb' = bb) := by
          by_cases q : 0 < mqf f c 0 G ∧ bb ≤ n + mqf f c 0 G
          · obtain ⟨g, -, g2, -⟩ := i3 q
            exact ⟨n + mqf f c 0 G + 1, by rw [g2, pdec], fun _ => rfl, fun q2 => absurd q q2⟩
          · exact ⟨bb, (i4 q).1, fun q2 => absurd q2 q, fun _ => rfl⟩
        have hb4 : bb' ≤ 100 := by
          by_cases q : 0 < mqf f c 0 G ∧ bb ≤ n + mqf f c 0 G
          · rw [hb2 q]; omega
          · rw [hb3 q]; exact h5
        obtain ⟨υ, a1, a2, a3, a4, a5⟩ := ih d (l + 1) u n bb' (nU τ' 69 (upd (τ' 69) l (-4))) (by omega) (by omega) h3 (by omega) hb4 (by rw [nU_n _ _ (by omega)]; exact e64') (by rw [nU_n _ _ (by omega)]; exact hb1)
        rw [a1, pb2]
        have hge := (mqf_ge (f := f) (c := c) (w0 := 0) G).2
        have fl : FL τ υ := by
          refine i2.tr ⟨fun j q1 q2 q3 => ?_, fun q hq => ?_⟩
          · rw [a5.1 j q1 q2 q3, nU_n _ _ q2]
          · rw [a5.2 q hq, nU_n _ _ (by omega)]
        refine ⟨υ, rfl, fun hq => ?_, fun hq => ?_, fun j hj => ?_, fl⟩
        · by_cases cT : mqf f c 0 G < mp (cpay r) G k (l + 1) u
          · rw [if_pos cT] at eT
            have hn : gc (cpay r) G k l u = none := by
              rw [egc, eT]
              refine fs_eqn (fun g hg => ?_)
              cases q : c g with
              | false => rfl
              | true => have := hge g hg q; rw [decide_eq_false (by omega)]; rfl
            have hbb : bb' ≤ n + mp (cpay r) G k (l + 1) u := by
              by_cases q : 0 < mqf f c 0 G ∧ bb ≤ n + mqf f c 0 G
              · rw [hb2 q]; omega
              · rw [hb3 q]; rw [eT] at hq; exact hq
            obtain ⟨r1, r2⟩ := a2 hbb
            refine ⟨by rw [r1, eT], fun j hj => ?_⟩
            rw [r2 j hj, ga_s, hn, nU_s]
            by_cases q : j < l
            · rw [if_pos (by omega), if_pos q, upd_n _ _ (by omega)]; exact i1 j q
            · rw [if_neg q]
              by_cases q2 : j = l
              · subst q2; rw [if_pos (by omega), if_pos rfl, upd_s]; rfl
              · rw [if_neg (by omega), if_neg q2]; rfl
          · rw [if_neg cT] at eT
            by_cases q0 : 0 < mqf f c 0 G
            · have hc1 : 0 < mqf f c 0 G ∧ bb ≤ n + mqf f c 0 G := ⟨q0, by rw [eT] at hq; exact hq⟩
              obtain ⟨g, g1, g2, g3⟩ := i3 hc1
              have hng : gc (cpay r) G k l u = some g := by rw [egc, eT]; exact g1
              have hbb : ¬ bb' ≤ n + mp (cpay r) G k (l + 1) u := by rw [hb2 hc1]; omega
              obtain ⟨r1, r2⟩ := a3 hbb
              refine ⟨by rw [r1, hb2 hc1, pdec, eT], fun j hj => ?_⟩
              rw [r2 j hj, nU_n _ _ (by omega), g3 j hj, ga_s, hng]
              by_cases q : j < l
              · rw [if_pos q, if_pos q]
              · rw [if_neg q, if_neg q]
                rfl
            · have hm0 : mqf f c 0 G = 0 := by omega
              have hw0 : mp (cpay r) G k (l + 1) u = 0 := by omega
              have hn : gc (cpay r) G k l u = none := by
                rw [egc, eT]
                refine fs_eqn (fun g hg => ?_)
                cases q : c g with
                | false => rfl
                | true => have := hge g hg q; omega
              have hbb : bb' ≤ n + mp (cpay r) G k (l + 1) u := by
                rw [hb3 (fun q => q0 q.1)]; rw [eT] at hq; omega
              obtain ⟨r1, r2⟩ := a2 hbb
              refine ⟨by rw [r1, eT, hm0, hw0], fun j hj => ?_⟩
              rw [r2 j hj, ga_s, hn, nU_s]
              by_cases q : j < l
              · rw [if_pos (by omega), if_pos q, upd_n _ _ (by omega)]; exact i1 j q
              · rw [if_neg q]
                by_cases q2 : j = l
                · subst q2; rw [if_pos (by omega), if_pos rfl, upd_s]; rfl
                · rw [if_neg (by omega), if_neg q2]; rfl
        · have hm : ¬ bb ≤ n + mqf f c 0 G := by rw [eT] at hq; split at hq <;> omega
          have hm2 : ¬ bb ≤ n + mp (cpay r) G k (l + 1) u := by rw [eT] at hq; split at hq <;> omega
          have hc1 : ¬ (0 < mqf f c 0 G ∧ bb ≤ n + mqf f c 0 G) := fun q => hm q.2
          obtain ⟨r1, r2⟩ := a3 (by rw [hb3 hc1]; exact hm2)
          obtain ⟨s1, s2⟩ := i4 hc1
          refine ⟨by rw [r1, hb3 hc1], fun j hj => ?_⟩
          rw [r2 j hj, nU_n _ _ (by omega)]; exact s2 j hj
        · rw [a4 j (by omega), nU_s, upd_n _ _ (by omega)]; exact i1 j hj
      · obtain ⟨i1, i2, i3, i4⟩ := hI
        have e64' : τ' 64 = r := by rw [i2.1 64 (by omega) (by omega) (by omega)]; exact e64
        have hw' : WF (τ' 64) G P L := by rw [e64']; exact hw
        have c' : ¬ nI G ≤ nI i := by rw [ple (by omega) (by omega)]; omega
        have hmi := mle i
        have hge := (mqf_ge (f := f) (c := c) (w0 := 0) i).2
        have noc : c i = false → fX6_clears_b58 (fX6_clears d) m (nI l) (nI u) (nI n) (nI (i + 1)) τ' = fX6_clears_b58 (fX6_clears d) m (nI l) (nI u) (nI n) (nI (i + 1)) τ' ∧ ((∀ j, j < l → τ' 69 j = τ 69 j) ∧ FL τ τ' ∧ ((0 < mqf f c 0 (i + 1) ∧ bb ≤ n + mqf f c 0 (i + 1)) → ∃ g, fs (fun g => c g && decide (1 + f g = mqf f c 0 (i + 1))) (i + 1) = some g ∧ τ' 63 11 = nI (n + mqf f c 0 (i + 1)) ∧ ∀ j, j < L → τ' 70 j = if j < l then τ 69 j else if j = l then nI g else ga (cpay r) G k (l + 1) (u ||| 2 ^ g) j) ∧
          (¬ (0 < mqf f c 0 (i + 1) ∧ bb ≤ n + mqf f c 0 (i + 1)) → τ' 63 11 = nI bb - 1 ∧ ∀ j, j < L → τ' 70 j = τ 70 j)) := by
          intro q
          have em : mqf f c 0 (i + 1) = mqf f c 0 i := by rw [mqf, q]; rfl
          refine ⟨rfl, i1, i2, ?_, ?_⟩
          · rw [em]
            intro q2
            obtain ⟨g, g1, g2⟩ := i3 q2
            exact ⟨g, by rw [fs_s, g1], g2⟩
          · rw [em]; exact i4
        rw [fX6_clears_b58]
        simp only [pk0, if_true, tc0, e64', e0, if_neg c']
        rw [M_has (show u < 256 by omega) (show i < 8 by omega), pb]
        cases qt : u.testBit i with
        | true =>
          rw [if_neg (by decide), pnl, pinc]
          exact hk τ' (noc (by rw [ec, qt]; simp)).2
        | false =>
          rw [if_pos bi_f, M_canPayIn hw' (show l < L by omega) hi, pb, e64']
          cases qp : cpay r l i with
          | false =>
            rw [if_pos bi_f, pnl, pinc]
            exact hk τ' (noc (by rw [ec, qp]; simp)).2
          | true =>
            have hci : c i = true := by rw [ec, qp, qt]; simp [hi]
            rw [if_neg (by decide), if_pos (pnd (show l < 8 by omega)), pcd (show l < 8 by omega), pnl, p2x (show i < 8 by omega), por]
            simp only [pinc]
            obtain ⟨bb', hb1, hb2, hb3⟩ : ∃ bb', τ' 63 11 = nI bb' - 1 ∧ ((0 < mqf f c 0 i ∧ bb ≤ n + mqf f c 0 i) → bb' = n + mqf f c 0 i + 1) ∧ (¬ (0 < mqf f c 0 i ∧ bb ≤ n + mqf f c 0 i) → bb' = bb) := by
              by_cases q : 0 < mqf f c 0 i ∧ bb ≤ n + mqf f c 0 i
              · obtain ⟨g, -, g2, -⟩ := i3 q
                exact ⟨n + mqf f c 0 i + 1, by rw [g2, pdec], fun _ => rfl, fun q2 => absurd q q2⟩
              · exact ⟨bb, (i4 q).1, fun q2 => absurd q2 q, fun _ => rfl⟩
            have hb4 : bb' ≤ 100 := by
              by_cases q : 0 < mqf f c 0 i ∧ bb ≤ n + mqf f c 0 i
              · rw [hb2 q]; omega
              · rw [hb3 q]; exact h5
            obtain ⟨υ, a1, a2, a3, a4, a5⟩ := ih d (l + 1) (u ||| 2 ^ i) (n + 1) bb' (nU τ' 69 (upd (τ' 69) l (nI i))) (by omega) (by omega) (pbor h3 hi) (by omega) hb4 (by rw [nU_n _ _ (by omega)]; exact e64') (by rw [nU_n _ _ (by omega)]; exact hb1)
            rw [a1, pb2, pnl]
            have fl : FL τ υ := by
              refine i2.tr ⟨fun j q1 q2 q3 => ?_, fun q hq => ?_⟩
              · rw [a5.1 j q1 q2 q3, nU_n _ _ q2]
              · rw [a5.2 q hq, nU_n _ _ (by omega)]
            have h69 : ∀ j, j < l → υ 69 j = τ 69 j := fun j hj => by rw [a4 j (by omega), nU_s, upd_n _ _ (by omega)]; exact i1 j hj
            rw [← ef i] at a2 a3
            have hfi := fle i
            have hrow : ∀ j, j < L → (if j < l + 1 then (nU τ' 69 (upd (τ' 69) l (nI i))) 69 j else ga (cpay r) G k (l + 1) (u ||| 2 ^ i) j) = if j < l then τ 69 j else if j = l then nI i else ga (cpay r) G k (l + 1) (u ||| 2 ^ i) j := by
              intro j hj
              rw [nU_s]
              by_cases q : j < l
              · rw [if_pos (by omega), if_pos q, upd_n _ _ (by omega)]; exact i1 j q
              · rw [if_neg q]
                by_cases q2 : j = l
                · subst q2; rw [if_pos (by omega), if_pos rfl, upd_s]
                · rw [if_neg (by omega), if_neg q2]
            by_cases cw : mqf f c 0 i < 1 + f i
            · have em : mqf f c 0 (i + 1) = 1 + f i := by rw [mqf, hci, if_pos rfl, if_pos cw]
              refine hk υ ⟨h69, fl, ?_, ?_⟩
              · rw [em]
                intro q
                have hbb : bb' ≤ n + 1 + f i := by
                  by_cases q2 : 0 < mqf f c 0 i ∧ bb ≤ n + mqf f c 0 i
                  · rw [hb2 q2]; omega
                  · rw [hb3 q2]; omega
                obtain ⟨r1, r2⟩ := a2 hbb
                refine ⟨i, fs_eq (by omega) (by rw [hci, decide_eq_true rfl]; rfl) (fun g hg => ?_), by rw [r1]; congr 1; omega, fun j hj => by rw [r2 j hj]; exact hrow j hj⟩
                cases q9 : c g with
                | false => rfl
                | true => have := hge g hg q9; rw [decide_eq_false (by omega)]; rfl
              · rw [em]
                intro q
                have hb0 : ¬ (0 < mqf f c 0 i ∧ bb ≤ n + mqf f c 0 i) := fun q2 => q ⟨by omega, by omega⟩
                obtain ⟨r1, r2⟩ := a3 (by rw [hb3 hb0]; intro q2; exact q ⟨by omega, by omega⟩)
                obtain ⟨s1, s2⟩ := i4 hb0
                refine ⟨by rw [r1, hb3 hb0], fun j hj => ?_⟩
                rw [r2 j hj, nU_n _ _ (by omega)]; exact s2 j hj
            · have em : mqf f c 0 (i + 1) = mqf f c 0 i := by rw [mqf, hci, if_pos rfl, if_neg cw]
              refine hk υ ⟨h69, fl, ?_, ?_⟩
              · rw [em]
                intro q
                obtain ⟨g, g1, g2, g3⟩ := i3 q
                obtain ⟨r1, r2⟩ := a3 (by rw [hb2 q]; omega)
                refine ⟨g, by rw [fs_s, g1], by rw [r1, hb2 q, pdec], fun j hj => ?_⟩
                rw [r2 j hj, nU_n _ _ (by omega)]; exact g3 j hj
              · rw [em]
                intro q
                obtain ⟨r1, r2⟩ := a3 (by rw [hb3 q]; intro q2; exact q ⟨by omega, by omega⟩)
                obtain ⟨s1, s2⟩ := i4 q
                refine ⟨by rw [r1, hb3 q], fun j hj => ?_⟩
                rw [r2 j hj, nU_n _ _ (by omega)]; exact s2 j hj
