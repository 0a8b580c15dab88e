/-! PURE 43: town -/
def TK (τ : nS) (k N : Nat) (c : Nat → Int32) : Prop := τ k 4 = nI N ∧ ∀ j, j < 100 → τ (k + 1) j = c j
theorem TK.fr {τ τ' : nS} {k N : Nat} {c : Nat → Int32} (h : TK τ k N c) (f : Fr 10 τ τ') (hk : 28 < k) : TK τ' k N c := by
  unfold TK at h ⊢
  rw [f k (by omega), f (k + 1) (by omega)]; exact h
theorem C_perform {τ : nS} {c : Nat → Int32} {k N q w : Nat} {r : Nat → Int32} {G P L : Nat} (hk : TK τ k N c) (hb : bts c) (hN : N ≤ 100) (hc : CT τ 10 r G P L) (hw : WF r G P L) (h3 : r 3 = nI w) (hw9 : w < 1000) (hs : (stm c N q).1 = true) : ∃ v τ', fX5_perform k (nI q) τ = some (v, τ') ∧ Fr 10 τ τ' ∧ PO c q r v τ' := by
  obtain ⟨e4, ec⟩ := hk
  obtain ⟨s1, s2, s3, s4, s5⟩ := stm_ok hs
  have dg : ∀ j, q + 1 ≤ j → j < q + 1 + fdg (c q) → nin (c j - 48) 10 := fun j j1 j2 => by
    obtain ⟨y1, y2⟩ := s4 j j1 j2
    exact ((byte_of (hb j (by omega))).2.2.2.2.2.2.2 y2).2
  have cd : ∀ j, j < N → fX1_digit k (nI j) τ = some (c j - 48) := fun j hj => by rw [C_digit hN e4 ec (by omega), if_pos hj]
  have d1 := cd (q + 1) (by omega)
  have d2 : ∃ y, fX1_digit k (nI (q + 2)) τ = some y ∧ (q + 2 < N → y = c (q + 2) - 48) := ⟨_, C_digit hN e4 ec (by omega), fun z => if_pos z⟩
  obtain ⟨y, d2, d2'⟩ := d2
  rw [fX5_perform, pinc, d1, pb, pa2, d2, pb, if_pos (pnin0 (by omega) (show q < 100 by omega)), pc0 (by omega), ec q (by omega)]
  by_cases c1 : c q = 103
  · have ef : fdg (c q) = 3 := by rw [c1]; decide
    rw [ef] at dg s5
    rw [if_pos c1, d2' (by omega), pa3, cd (q + 3) (by omega), pb]
    exact D_g hc hw h3 hw9 c1 (dg _ (by omega) (by omega)) (dg _ (by omega) (by omega)) (dg _ (by omega) (by omega))
  rw [if_neg c1]
  by_cases c2 : c q = 108
  · have ef : fdg (c q) = 2 := by rw [c2]; decide
    rw [ef] at dg s5
    rw [if_pos c2, d2' (by omega)]
    exact D_l hc hw h3 hw9 c2
  rw [if_neg c2]
  by_cases c3 : c q = 112
  · have ef : fdg (c q) = 1 := by rw [c3]; decide
    rw [ef] at dg s5
    rw [if_pos c3]
    exact D_p hc hw h3 hw9 c3 (dg _ (by omega) (by omega))
  rw [if_neg c3]
  by_cases c4 : c q = 115
  · have ef : fdg (c q) = 2 := by rw [c4]; decide
    rw [ef] at dg s5
    rw [if_pos c4, d2' (by omega)]
    exact D_s hc hw h3 hw9 c4 (dg _ (by omega) (by omega)) (dg _ (by omega) (by omega))
  rw [if_neg c4]
  by_cases c5 : c q = 119
  · have ef : fdg (c q) = 2 := by rw [c5]; decide
    rw [ef] at dg s5
    rw [d2' (by omega)]
    exact D_w hc hw h3 hw9 c5 (dg _ (by omega) (by omega)) (dg _ (by omega) (by omega))
  · have ef : fdg (c q) = 0 := by unfold fdg; rw [if_neg c1, if_neg c2, if_neg c3, if_neg c4, if_neg c5]
    omega
/-! the reference, first time through the text -/
theorem nz1000 : ∀ i, i < 101 → ¬ (-1000 : Int32) - nI i = 0 := by decide +kernel
theorem nz2000 : ∀ i, i < 101 → ¬ (-2000 : Int32) - nI i = 0 := by decide +kernel
def FU (σ τ : nS) : Prop := (∀ j, j ≠ 63 → j ≠ 64 → j ≠ 67 → j ≠ 68 → τ j = σ j) ∧ ∀ s, s ≠ 5 → τ 63 s = σ 63 s
theorem FT.fu {σ τ : nS} (h : FT σ τ) : FU σ τ := ⟨fun j a _ _ d => h.1 j a d, h.2⟩
theorem FU.tr {σ τ υ : nS} (h1 : FU σ τ) (h2 : FU τ υ) : FU σ υ := ⟨fun j a b c d => (h2.1 j a b c d).trans (h1.1 j a b c d), fun q a => (h2.2 q a).trans (h1.2 q a)⟩
def b77S (τ : nS) : nS := plc (nU τ 67 (cpR (τ 64) (τ 67))) 0
theorem b77S_fu (τ : nS) : FU τ (b77S τ) := ⟨fun j a _ c _ => by unfold b77S plc; rw [nU_n _ _ a, nU_n _ _ c], fun s a => by unfold b77S plc; rw [nU_s, upd_n _ _ a, nU_n _ _ (by omega)]⟩
theorem b77S_64 (τ : nS) : b77S τ 64 = τ 64 := by unfold b77S; rw [plc_o _ _ (by omega), nU_n _ _ (by omega)]
theorem b77S_67 (τ : nS) : b77S τ 67 = cpR (τ 64) (τ 67) := by unfold b77S; rw [plc_o _ _ (by omega), nU_s]
theorem M_b77 {τ : nS} {a v : Int32} : fX6_town_b77 a v τ = fX6_town_b93 4096 a v (b77S τ) := by
  rw [fX6_town_b77, M_copies (by omega), pb2, pnl, pl0]
  rfl
theorem M_fail1 {τ : nS} {d N q n i : Nat} {a : Int32} {c : Nat → Int32} (h : TX τ d N c) (hb : bts c) (hd : d < 8) (hN : N ≤ 100) (hq : q < 800) (e : τ 63 5 = nI q) (hi : i ≤ 100) (hs : stm c N q = (false, i)) : ∃ τ', fX6_town_b41 (n + 1) a 0 τ = some ((-1000 : Int32) - nI i, τ') ∧ τ' 64 = τ 64 ∧ FU τ τ' := by
  obtain ⟨τ1, f1, r1, r2, -⟩ := M_reads h hb hd hN hq e
  rw [hs] at r1 r2
  have hz := nz1000 i (by omega)
  rw [fX6_town_b41, r1, pb2, if_pos bi_f, pnl, r2, fX6_town_b58, pnl, if_neg hz, M_b77, fX6_town_b93, if_neg hz, fX6_town_b161, if_neg hz]
  exact ⟨_, rfl, by rw [b77S_64]; exact f1.1 64 (by omega) (by omega), f1.fu.tr (b77S_fu τ1)⟩
theorem M_ok1 {τ : nS} {d N q n : Nat} {a : Nat} {c : Nat → Int32} (h : TX τ d N c) (hb : bts c) (hd : d < 8) (hN : N ≤ 100) (hq : q < 800) (e : τ 63 5 = nI q) (hs : (stm c N q).1 = true) : ∃ τ', FT τ τ' ∧ τ' 63 5 = nI (stm c N q).2 ∧ fX6_town_b41 (n + 1) (nI a) 0 τ = if (stm c N q).2 < N then fX6_town_b41 n (nI (a + 1)) 0 τ' else fX6_town_b77 (nI (a + 1)) 0 τ' := by
  obtain ⟨τ1, f1, r1, r2, -⟩ := M_reads h hb hd hN hq e
  obtain ⟨s1, s2, s3, s4, s5⟩ := stm_ok hs
  have h3 := fdg_le (c q)
  rw [hs] at r1
  have h1 := (h.ft f1).1
  have l : (nI (stm c N q).2 < nI N) = ((stm c N q).2 < N) := plt (by omega) (by omega)
  refine ⟨τ1, f1, r2, ?_⟩
  rw [fX6_town_b41, r1, pb2, if_neg (by decide), fX6_town_b58, pnl, pinc, if_pos rfl, r2, h1]
  by_cases z : (stm c N q).2 < N
  · rw [if_pos (by rw [l]; exact z), if_pos z]
  · rw [if_neg (by rw [l]; exact z), if_neg z]
theorem M_ph1 {d N : Nat} {c : Nat → Int32} (hb : bts c) (hd : d < 8) (hN : N ≤ 100) : (∀ K q n a (τ : nS), good c N (K + 1) q → K < n → TX τ d N c → τ 63 5 = nI q → ∃ τ', FT τ τ' ∧ fX6_town_b41 n (nI a) 0 τ = fX6_town_b77 (nI (a + (K + 1))) 0 τ') ∧
    ∀ i K q n a (τ : nS), i ≤ 100 → bad c N i K q → K < n → TX τ d N c → τ 63 5 = nI q → ∃ τ', fX6_town_b41 n (nI a) 0 τ = some ((-1000 : Int32) - nI i, τ') ∧ τ' 64 = τ 64 ∧ FU τ τ' := by
  refine ⟨?_, ?_⟩
  · intro K
    induction K with
    | zero =>
      intro q n a τ hg hn h e
      obtain ⟨g1, g2, g3⟩ := hg
      have g3 : (stm c N q).2 = N := g3
      match n, hn with
      | n + 1, _ =>
        obtain ⟨τ1, f1, e1, r1⟩ := M_ok1 (n := n) (a := a) h hb hd hN (by omega) e g2
        rw [if_neg (by omega)] at r1
        exact ⟨τ1, f1, r1⟩
    | succ K ih =>
      intro q n a τ hg hn h e
      obtain ⟨g1, g2, g3⟩ := hg
      match n, hn with
      | n + 1, hn =>
        obtain ⟨τ1, f1, e1, r1⟩ := M_ok1 (n := n) (a := a) h hb hd hN (by omega) e g2
        rw [if_pos g3.1] at r1
        obtain ⟨τ2, f2, r2⟩ := ih _ n (a + 1) τ1 g3 (by omega) (h.ft f1) e1
        exact ⟨τ2, f1.tr f2, by rw [r1, r2]; congr 2; omega⟩
  · intro i K
    induction K with
    | zero =>
      intro q n a τ hi hg hn h e
      obtain ⟨g1, g2⟩ := hg
      match n, hn with
      | n + 1, _ => exact M_fail1 h hb hd hN (by omega) e hi g2
    | succ K ih =>
      intro q n a τ hi hg hn h e
      obtain ⟨g1, g2, g3⟩ := hg
      match n, hn with
      | n + 1, hn =>
        obtain ⟨τ1, f1, e1, r1⟩ := M_ok1 (n := n) (a := a) h hb hd hN (by omega) e g2
        have hlt : (stm c N q).2 < N := by
          match K, g3 with
          | 0, g3 => exact g3.1
          | K + 1, g3 => exact g3.1
        rw [if_pos hlt] at r1
        obtain ⟨τ2, r2, r3, f2⟩ := ih _ n (a + 1) τ1 hi g3 (by omega) (h.ft f1) e1
        exact ⟨τ2, by rw [r1, r2], by rw [r3]; exact f1.1 64 (by omega) (by omega), f1.fu.tr f2⟩
/-! both, second time through the text -/
theorem TX.fu {τ τ' : nS} {d N : Nat} {c : Nat → Int32} (h : TX τ d N c) (f : FU τ τ') : TX τ' d N c := by
  unfold TX at h ⊢
  rw [f.2 7 (by omega), f.2 6 (by omega), f.1 77 (by omega) (by omega) (by omega) (by omega)]
  exact h
theorem town_sync {k d N : Nat} {c : Nat → Int32} {A : Int32} (hb : bts c) (hd : d < 8) (hN : N ≤ 100) (hk : 28 < k) : ∀ K q n a (τ : nS) (r : Nat → Int32) (G P L w : Nat), good c N K q → K < n → q ≤ N → TK τ k N c → CT τ 10 r G P L → WF r G P L → r 3 = nI w → w < 1000 →
    (∃ (τ1 : nS) (r' : Nat → Int32) (G' P' L' w' : Nat), fX5_town_b78 n k (nI a) (nI q) τ = (nb2 (fX4_become 1 10 τ1) fun _ t3 => some (nI (a + K), t3)) ∧ Fr 10 τ τ1 ∧ CT τ1 10 r' G' P' L' ∧ WF r' G' P' L' ∧ r' 3 = nI w' ∧ w' < 1000 ∧ ∀ m (κ : nS), K < m → κ 64 = r → TX κ d N c → κ 63 5 = nI q → ∃ κ', fX6_town_b93 m A 0 κ = some (A, κ') ∧ κ' 64 = r' ∧ FU κ κ' ∧ κ' 67 = κ 67) ∨
    (∃ (qf : Nat) (τ' : nS), fX5_town_b78 n k (nI a) (nI q) τ = some ((-2000 : Int32) - nI qf, τ') ∧ Fr 10 τ τ' ∧ ∀ m (κ : nS), K < m → κ 64 = r → TX κ d N c → κ 63 5 = nI q → ∃ κ', fX6_town_b93 m A 0 κ = some ((-2000 : Int32) - nI qf, κ') ∧ (∀ j, j < 74 → κ' 64 j = κ 67 j) ∧ FU κ κ') := by
  intro K
  induction K with
  | zero =>
    intro q n a τ r G P L w hg hn hqN hT hc hw h3 hw9
    have hg : q = N := hg
    subst hg
    match n, hn with
    | n + 1, _ =>
      refine Or.inl ⟨τ, r, G, P, L, w, ?_, Fr.rf, hc, hw, h3, hw9, fun m κ hm k1 k2 k3 => ?_⟩
      · rw [fX5_town_b78, hT.1, if_pos (by rw [ple (by omega) (by omega)]; omega)]; rfl
      · match m, hm with
        | m + 1, _ =>
          refine ⟨κ, ?_, k1, ⟨fun _ _ _ _ _ => rfl, fun _ _ => rfl⟩, rfl⟩
          rw [fX6_town_b93, if_pos rfl, k2.1, k3, if_pos (by rw [ple (by omega) (by omega)]; omega), fX6_town_b161, if_pos rfl]
  | succ K ih =>
    intro q n a τ r G P L w hg hn hqN hT hc hw h3 hw9
    obtain ⟨g1, g2, g3⟩ := hg
    obtain ⟨s1, s2, s3, s4, s5⟩ := stm_ok g2
    have h3d := fdg_le (c q)
    match n, hn with
    | n + 1, hn =>
      obtain ⟨v, τ1, p1, p2, p3⟩ := C_perform hT hb hN hc hw h3 hw9 g2
      have hT1 := hT.fr p2 hk
      have c' : ¬ nI N ≤ nI q := by rw [ple (by omega) (by omega)]; omega
      -- what the reference does with the statement
      have hM : ∀ m (κ : nS), κ 64 = r → TX κ d N c → κ 63 5 = nI q → ∃ κ1, FT κ κ1 ∧ κ1 63 5 = nI (stm c N q).2 ∧ NB c q (κ1 68) ∧ fX6_town_b93 (m + 1) A 0 κ = nb2 (fX6_isDone (c q) κ1) fun r8 t9 => if r8 = 0 then nb2 (fX6_copies 67 64 t9) fun _ t13 => fX6_town_b93 m A ((-2000 : Int32) - nI q) t13 else fX6_town_b93 m A 0 t9 := by
        intro m κ k1 k2 k3
        obtain ⟨κ1, f1, r1, r2, r3⟩ := M_reads k2 hb hd hN (by omega) k3
        rw [g2] at r1
        have eh : (c q &&& 255) = c q ∨ True := Or.inr trivial
        have ehc : fX6_isDone (c q &&& 255) κ1 = fX6_isDone (c q) κ1 := by
          obtain ⟨y1, y2, y3, y4, y5, -⟩ := byte_of (hb q (by omega))
          have f0 : 0 < fdg (c q) := s2
          unfold fdg at f0
          by_cases z1 : c q = 103
          · rw [y1.mpr z1, z1]
          by_cases z2 : c q = 108
          · rw [y2.mpr z2, z2]
          by_cases z3 : c q = 112
          · rw [y3.mpr z3, z3]
          by_cases z4 : c q = 115
          · rw [y4.mpr z4, z4]
          by_cases z5 : c q = 119
          · rw [y5.mpr z5, z5]
          rw [if_neg z1, if_neg z2, if_neg z3, if_neg z4, if_neg z5] at f0
          omega
        refine ⟨κ1, f1, r2, r3 g2, ?_⟩
        rw [fX6_town_b93, if_pos rfl, k2.1, k3, if_neg c', pnl, M_here k2 hd hN (by omega) k3, pb, if_pos g1, r1, pb2, ehc]
        simp only [pnl]
      rcases p3 with ⟨r', G', P', L', w', q1, q2, q3, q4, q5, q6⟩ | ⟨q1, q6⟩
      · have v0 : 0 ≤ v := Int32.not_lt.mp q1
        have hstep : fX5_town_b78 (n + 1) k (nI a) (nI q) τ = fX5_town_b78 n k (nI (a + 1)) (nI (stm c N q).2) τ1 := by
          rw [fX5_town_b78, hT.1, if_neg c', p1, pb2, if_pos v0, pnl, pinc, if_pos (pnin0 (by omega) (show q < 100 by omega)), pc0 (by omega), hT1.2 q (by omega), C_digits, pb, pnl, pa2, padd, s3]
          congr 2
        rw [hstep]
        rcases ih _ n (a + 1) τ1 r' G' P' L' w' g3 (by omega) (by omega) hT1 q2 q3 q4 q5 with ⟨τ2, r2, G2, P2, L2, w2, t1, t2, t3, t4, t5, t6, t7⟩ | ⟨qf, τ2, t1, t2, t7⟩
        · refine Or.inl ⟨τ2, r2, G2, P2, L2, w2, by rw [t1, show a + 1 + K = a + (K + 1) by omega], p2.tr t2, t3, t4, t5, t6, fun m κ hm k1 k2 k3 => ?_⟩
          match m, hm with
          | m + 1, hm =>
            obtain ⟨κ1, f1, x1, x2, x3⟩ := hM m κ k1 k2 k3
            have k64 : κ1 64 = r := by rw [f1.1 64 (by omega) (by omega)]; exact k1
            rw [q6 κ1 k64 x2, pb2, if_neg (by decide)] at x3
            have f2 : FU κ1 (nU κ1 64 r') := ⟨fun j _ b _ _ => nU_n _ _ b, fun s _ => by rw [nU_n _ _ (by omega)]⟩
            obtain ⟨κ2, y1, y2, y3, y4⟩ := t7 m (nU κ1 64 r') (by omega) (by rw [nU_s]) ((k2.ft f1).fu f2) (by rw [nU_n _ _ (by omega)]; exact x1)
            exact ⟨κ2, by rw [x3, y1], y2, (f1.fu.tr f2).tr y3, by rw [y4, nU_n _ _ (by omega)]; exact f1.1 67 (by omega) (by omega)⟩
        · refine Or.inr ⟨qf, τ2, t1, p2.tr t2, fun m κ hm k1 k2 k3 => ?_⟩
          match m, hm with
          | m + 1, hm =>
            obtain ⟨κ1, f1, x1, x2, x3⟩ := hM m κ k1 k2 k3
            have k64 : κ1 64 = r := by rw [f1.1 64 (by omega) (by omega)]; exact k1
            rw [q6 κ1 k64 x2, pb2, if_neg (by decide)] at x3
            have f2 : FU κ1 (nU κ1 64 r') := ⟨fun j _ b _ _ => nU_n _ _ b, fun s _ => by rw [nU_n _ _ (by omega)]⟩
            obtain ⟨κ2, y1, y2, y3⟩ := t7 m (nU κ1 64 r') (by omega) (by rw [nU_s]) ((k2.ft f1).fu f2) (by rw [nU_n _ _ (by omega)]; exact x1)
            refine ⟨κ2, by rw [x3, y1], fun j hj => ?_, (f1.fu.tr f2).tr y3⟩
            rw [y2 j hj, nU_n _ _ (by omega), f1.1 67 (by omega) (by omega)]
      · refine Or.inr ⟨q, τ1, ?_, p2, fun m κ hm k1 k2 k3 => ?_⟩
        · rw [fX5_town_b78, hT.1, if_neg c', p1, pb2, if_neg (Int32.not_le.mpr q1)]
        · match m, hm with
          | m + 2, hm =>
            obtain ⟨κ1, f1, x1, x2, x3⟩ := hM (m + 1) κ k1 k2 k3
            have k64 : κ1 64 = r := by rw [f1.1 64 (by omega) (by omega)]; exact k1
            have hz := nz2000 q (by omega)
            have e9 : ∀ t, fX6_town_b93 (m + 1) A ((-2000 : Int32) - nI q) t = some ((-2000 : Int32) - nI q, t) := fun t => by
              rw [fX6_town_b93, if_neg hz, fX6_town_b161, if_neg hz]
            rw [q6 κ1 k64 x2, pb2, if_pos rfl, M_copies (by omega), pb2, e9] at x3
            refine ⟨_, x3, fun j hj => ?_, f1.fu.tr ⟨fun j _ b _ _ => nU_n _ _ b, fun s _ => by rw [nU_n _ _ (by omega)]⟩⟩
            rw [nU_s, cpR_e _ _ _ hj, f1.1 67 (by omega) (by omega)]
