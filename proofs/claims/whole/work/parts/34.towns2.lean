/-! PURE 25: sums over drawn towns -/
def qb (r : Nat → Int32) (P x y : Nat) : Bool := qm r x y P && qm r y x P
def qsm (r : Nat → Int32) (P x : Nat) : Nat → Int32
  | 0 => 0
  | y + 1 => if x < y then qsm r P x y + bi (qb r P x y) else qsm r P x y
theorem qsm_0 (r : Nat → Int32) (P x : Nat) : ∀ y, y ≤ x + 1 → qsm r P x y = 0 := by
  intro y
  induction y with
  | zero => intro _; rfl
  | succ y ih => intro h; rw [qsm, if_neg (by omega)]; exact ih (by omega)
def qtot (r : Nat → Int32) (P G : Nat) : Nat → Int32
  | 0 => 0
  | x + 1 => qtot r P G x + qsm r P x G
theorem C_allQuarrels {σ : nS} {k : Nat} {r : Nat → Int32} {G P L w : Nat} (h : CT σ k r G P L) (hw : WF r G P L) (hk : w < 2147483648) (e : r 3 = nI w) : fX4_allQuarrels k σ = some (qtot r P G G) := by
  have hG := hw.1
  rw [fX4_allQuarrels]
  refine ploop (fun n x => fX4_allQuarrels_b4 n k (qtot r P G x) (nI x) σ) _ G
    (fun n => by rw [fX4_allQuarrels_b4, h.1, if_pos (by rw [ple (by omega) (by omega)]; omega)])
    (fun n x hx => ?_) 4096 0 (by omega) (by omega)
  have c' : ¬ nI G ≤ nI x := by rw [ple (by omega) (by omega)]; omega
  rw [fX4_allQuarrels_b4, h.1, if_neg c', pnl, pinc]
  have key : ∀ m y, x < y → y ≤ G → G < m + y → fX4_allQuarrels_b16 (fX4_allQuarrels_b4 n) m k (qtot r P G x + qsm r P x y) (nI x) (nI y) σ = fX4_allQuarrels_b4 n k (qtot r P G (x + 1)) (nI (x + 1)) σ := by
    intro m
    induction m with
    | zero => intro y h1 h2 h3; omega
    | succ m ih =>
      intro y h1 h2 h3
      by_cases c : G ≤ y
      · obtain rfl : y = G := by omega
        rw [fX4_allQuarrels_b16, h.1, if_pos (by rw [ple (by omega) (by omega)]; omega), pnl, pinc]; rfl
      · have c2 : ¬ nI G ≤ nI y := by rw [ple (by omega) (by omega)]; omega
        rw [← ih (y + 1) (by omega) (by omega) (by omega), fX4_allQuarrels_b16, h.1, if_neg c2, C_isQuarrel h hw hx (show y < G by omega) hk e, pb, qsm, if_pos h1, pnl, pnl, pnl, pinc]
        have eq : qb r P x y = (qm r x y P && qm r y x P) := rfl
        rw [← eq]
        cases qb r P x y with
        | false => rw [if_pos bi_f, bi_f, Int32.add_zero]
        | true => rw [if_neg (by decide), bi_t, Int32.add_assoc]
  have k9 := key 4096 (x + 1) (by omega) (by omega) (by omega)
  rw [qsm_0 r P x (x + 1) (by omega), Int32.add_zero] at k9
  exact k9
theorem M_quarrelsIn {σ : nS} {k G P L : Nat} (hw : WF (σ k) G P L) : fX6_quarrelsIn k σ = some (qtot (σ k) P G G) := by
  have hG := hw.1
  have h1 := hw.2.2.2.1
  rw [fX6_quarrelsIn]
  refine ploop (fun n x => fX6_quarrelsIn_b4 n k (qtot (σ k) P G x) (nI x) σ) _ G
    (fun n => by
      have c' : nI G ≤ nI G := by rw [ple (by omega) (by omega)]; omega
      rw [fX6_quarrelsIn_b4]; simp only [pk0, if_true, tc0, h1, if_pos c'])
    (fun n x hx => ?_) 4096 0 (by omega) (by omega)
  have c' : ¬ nI G ≤ nI x := by rw [ple (by omega) (by omega)]; omega
  rw [fX6_quarrelsIn_b4]
  simp only [pk0, if_true, tc0, h1, if_neg c', pnl, pinc]
  have key : ∀ m y, x < y → y ≤ G → G < m + y → fX6_quarrelsIn_b15 (fX6_quarrelsIn_b4 n) m k (qtot (σ k) P G x + qsm (σ k) P x y) (nI x) (nI y) σ = fX6_quarrelsIn_b4 n k (qtot (σ k) P G (x + 1)) (nI (x + 1)) σ := by
    intro m
    induction m with
    | zero => intro y h1 h2 h3; omega
    | succ m ih =>
      intro y h2 h3 h4
      by_cases c : G ≤ y
      · obtain rfl : y = G := by omega
        have c' : nI y ≤ nI y := by rw [ple (by omega) (by omega)]; omega
        rw [fX6_quarrelsIn_b15]
        simp only [pk0, if_true, tc0, h1, if_pos c', pnl, pinc]
        rfl
      · have c2 : ¬ nI G ≤ nI y := by rw [ple (by omega) (by omega)]; omega
        rw [← ih (y + 1) (by omega) (by omega) (by omega), fX6_quarrelsIn_b15]
        simp only [pk0, if_true, tc0, h1, if_neg c2]
        rw [M_quarrelIn hw hx (show y < G by omega), pb, qsm, if_pos h2, pnl, pnl, pinc, Int32.add_assoc]
        rfl
  have k9 := key 4096 (x + 1) (by omega) (by omega) (by omega)
  rw [qsm_0 (σ k) P x (x + 1) (by omega), Int32.add_zero] at k9
  exact k9
theorem towns_sync {σ : nS} {G P L w T : Nat} {z : Int32} (hc0 : CT σ 1 (σ 64) G P L) (hw0 : WF (σ 64) G P L) (h3 : σ 64 3 = nI w) (hk : w < 1000) (hP0 : 0 < P) (hT : T < 1000) : ∀ n i acc (τ : nS) (ρ : Nat → Int32), FwC σ τ → i ≤ T → T < n + i →
    ∃ v υ, fX5_towns_b46 n (nI T) z acc (nI i) τ = some (v, υ) ∧ FwC τ υ ∧ ∀ κ : nS, κ 64 = σ 64 → κ 65 = ρ → κ 63 14 = τ 0 8 → ∃ κ', fX6_towns_b44 n (nI T) z acc (nI i) κ = some (v, κ') ∧ FwM κ κ' := by
  intro n
  induction n with
  | zero => intro i acc τ ρ _ h1 h2; omega
  | succ n ih =>
    intro i acc τ ρ hf h1 h2
    by_cases c : T ≤ i
    · have c' : nI T ≤ nI i := by rw [ple (by omega) (by omega)]; omega
      refine ⟨acc, τ, by rw [fX5_towns_b46, if_pos c'], ⟨fun _ _ _ => rfl, fun _ _ => rfl⟩, fun κ _ _ _ => ⟨κ, by rw [fX6_towns_b44, if_pos c'], ⟨fun _ _ _ => rfl, fun _ _ => rfl⟩⟩⟩
    · have c' : ¬ nI T ≤ nI i := by rw [ple (by omega) (by omega)]; omega
      have hc : CT τ 1 (σ 64) G P L := hc0.frame (fun j q1 q2 => hf.1 j (by omega) (by omega))
      obtain ⟨τ1, d1, d2, d3, d4⟩ := C_drawTown (r := cpR (σ 64) ρ) hc hw0 (fun j hj => cpR_e _ _ _ hj) hP0
      have hwr : WF (cpR (σ 64) ρ) G P L := hw0.congr (fun j hj => cpR_e _ _ _ hj)
      have hG := hw0.1
      have hP := hw0.2.1
      have hwR := WF_drT (s := (drO (cpR (σ 64) ρ) (τ 0 8) P G).2) (WF_drO (s := τ 0 8) hwr hP0 G (by omega)) P (by omega)
      have h3R : (drT (drO (cpR (σ 64) ρ) (τ 0 8) P G).1 (drO (cpR (σ 64) ρ) (τ 0 8) P G).2 P).1 3 = nI w := by
        rw [drT_3, drO_3, cpR_e _ _ _ (by omega)]; exact h3
      have hm : ∀ κ : nS, κ 64 = σ 64 → κ 65 = ρ → κ 63 14 = τ 0 8 → ∃ κ', fX6_towns_b44 (n + 1) (nI T) z acc (nI i) κ = (if z = 0 then (fX6_quarrelsIn 65 κ').bind fun r7 => fX6_towns_b44 n (nI T) z (acc + r7) (nI (i + 1)) κ' else (fX6_richesAll 65 κ').bind fun r3 => fX6_towns_b44 n (nI T) z (acc + r3) (nI (i + 1)) κ') ∧ κ' 65 = (drT (drO (cpR (σ 64) ρ) (τ 0 8) P G).1 (drO (cpR (σ 64) ρ) (τ 0 8) P G).2 P).1 ∧ κ' 63 14 = τ1 0 8 ∧ FwM κ κ' := by
        intro κ k1 k2 k3
        have hwκ : WF ((nU κ 65 (cpR (κ 64) (κ 65))) 64) G P L := by rw [nU_n _ _ (by omega), k1]; exact hw0
        obtain ⟨κ', m1, m2, m3, m4⟩ := M_drawTown (c := fX6_towns_b44 n) (a1 := nI T) (a3 := z) (a4 := acc) (a5 := nI i) (r := cpR (σ 64) ρ) hwκ (by rw [nU_s, k1, k2]) hP0
        have ks : (nU κ 65 (cpR (κ 64) (κ 65))) 63 14 = τ 0 8 := by rw [nU_n _ _ (by omega)]; exact k3
        rw [ks] at m2 m3
        refine ⟨κ', ?_, m2, by rw [m3, d3], ⟨fun j q1 q2 => by rw [m4.1 j q1 q2, nU_n _ _ q2], fun q hq => by rw [m4.2 q hq, nU_n _ _ (by omega)]⟩⟩
        rw [fX6_towns_b44, if_neg c', M_copies (by omega), pb2, pl0, m1]
        simp only [pinc]
        rfl
      generalize (drT (drO (cpR (σ 64) ρ) (τ 0 8) P G).1 (drO (cpR (σ 64) ρ) (τ 0 8) P G).2 P).1 = R at d2 hwR h3R hm
      by_cases cz : z = 0
      · obtain ⟨v, υ, b1, b2, b3⟩ := ih (i + 1) (acc + qtot R P G G) τ1 R (hf.tr d4) (by omega) (by omega)
        refine ⟨v, υ, ?_, d4.tr b2, fun κ k1 k2 k3 => ?_⟩
        · rw [fX5_towns_b46, if_neg c', d1, pb2, if_pos cz, C_allQuarrels d2 hwR (show w < 2147483648 by omega) h3R, pb, pnl, pnl, pinc]
          exact b1
        · obtain ⟨κ', m1, m2, m3, m4⟩ := hm κ k1 k2 k3
          have hwk : WF (κ' 65) G P L := by rw [m2]; exact hwR
          obtain ⟨κ2, n1, n2⟩ := b3 κ' (by rw [m4.1 64 (by omega) (by omega)]; exact k1) m2 m3
          refine ⟨κ2, ?_, m4.tr n2⟩
          rw [m1, if_pos cz, M_quarrelsIn hwk, pb, m2]
          exact n1
      · obtain ⟨v, υ, b1, b2, b3⟩ := ih (i + 1) (acc + rchA R G P) τ1 R (hf.tr d4) (by omega) (by omega)
        refine ⟨v, υ, ?_, d4.tr b2, fun κ k1 k2 k3 => ?_⟩
        · rw [fX5_towns_b46, if_neg c', d1, pb2, if_neg cz, C_allWealth d2 hwR, pb, pnl, pnl, pinc]
          exact b1
        · obtain ⟨κ', m1, m2, m3, m4⟩ := hm κ k1 k2 k3
          have hwk : WF (κ' 65) G P L := by rw [m2]; exact hwR
          obtain ⟨κ2, n1, n2⟩ := b3 κ' (by rw [m4.1 64 (by omega) (by omega)]; exact k1) m2 m3
          refine ⟨κ2, ?_, m4.tr n2⟩
          rw [m1, if_neg cz, M_richesAll hwk, pb, m2]
          exact n1
theorem S_towns {σ : nS} (I : Inv σ) (x y z : Int32) : See σ (fX5_towns x y z) (fX6_towns x y z) := by
  obtain ⟨G, P, L, w, hw, hc, h3, h4, hG, hP, hL⟩ := I.1.get
  simp only [See, fX5_towns, fX6_towns, M_isIn x, ti1, ti20, M_isIn1, pb]
  cases h : decide (1 ≤ x.toInt ∧ x.toInt ≤ 20) with
  | false =>
    have h := of_decide_eq_false h
    refine ⟨-1, σ, σ, ?_, by simp only [bif0, if_true], I⟩
    simp only [lt_ti, ti1, ti20]
    by_cases c : x.toInt < 1
    · rw [if_pos c]
    · rw [if_neg c, if_pos (by omega)]
  | true =>
    have h := of_decide_eq_true h
    obtain ⟨T, hT, rfl⟩ := pof (x := x) (n := 21) ⟨by omega, by omega⟩ (by omega)
    rw [pti (by omega)] at h
    have q1 : ¬ nI T < 1 := by rw [pl1, plt (by omega) (by omega)]; omega
    have q2 : ¬ (20 : Int32) < nI T := by rw [lt_ti, ti20, pti (by omega)]; omega
    simp only [bit0, if_false, if_neg q1, if_neg q2]
    cases h6 : decide (nin z 2) with
    | false =>
      simp only [bif0, if_true]
      rcases gfb h6 with e | ⟨e, e'⟩
      · simp only [e, if_true]; exact ⟨_, _, σ, rfl, rfl, I⟩
      · simp only [e, e', if_false]; exact ⟨_, _, σ, rfl, rfl, I⟩
    | true =>
      have z1 : (z < 0) = False := by rcases gt2 h6 with rfl | rfl <;> simp <;> decide
      have z2 : (z ≤ 1) = True := by rcases gt2 h6 with rfl | rfl <;> simp <;> decide
      simp only [bit0, z1, z2, if_false, if_true, pk1, tc1, hc.2.1]
      by_cases c : P = 0
      · subst c
        rw [if_pos pl0.symm]
        exact ⟨-3, σ, σ, rfl, by rw [hw.2.2.2.2.1, if_pos pl0.symm], I⟩
      · have c' : ¬ nI P = 0 := by rw [pl0, peq (by omega) (by omega)]; exact c
        rw [if_neg c', pnl]
        have F0 : FwC σ (nU σ 0 (upd (σ 0) 8 y)) := ⟨fun j a b => nU_n _ _ a, fun q hq => by rw [nU_s, upd_n _ _ hq]⟩
        obtain ⟨v, υ, a1, a2, a3⟩ := towns_sync (z := z) hc hw h3 h4 (show 0 < P by omega) (show T < 1000 by omega) 4096 0 0 _ (σ 65) F0 (by omega) (by omega)
        have f := F0.tr a2
        obtain ⟨κ', b1, b2⟩ := a3 (nU υ 63 (upd (υ 63) 14 y)) (by rw [nU_n _ _ (by omega)]; exact f.1 64 (by omega) (by omega)) (by rw [nU_n _ _ (by omega)]; exact f.1 65 (by omega) (by omega)) (by rw [nU_s, upd_s, nU_s, upd_s])
        rw [← pl0] at a1 b1
        rw [a1]
        refine ⟨v, υ, κ', rfl, ?_, I.frame (fun j hj => ?_) ?_ ?_⟩
        · rw [f.1 64 (by omega) (by omega), hw.2.2.2.2.1, if_neg c', pnl]; exact b1
        · unfold core at hj
          rw [b2.1 j (by omega) (by omega), nU_n _ _ (by omega)]
          exact f.1 j (by omega) (by omega)
        · rw [b2.1 0 (by omega) (by omega), nU_n _ _ (by omega)]; exact f.2 3 (by omega)
        · rw [b2.2 4 (by omega), nU_s, upd_n _ _ (by omega)]; rw [f.1 63 (by omega) (by omega)]
