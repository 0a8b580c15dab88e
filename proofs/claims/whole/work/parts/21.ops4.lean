/-! PURE 12: cleared, richest, worst, quarrel, count -/
theorem bset_nz {f : Nat → Bool} {n : Nat} (hn : n ≤ 8) : (nI (bset f n) = 0) = (bset f n = 0) := by
  have h1 := bset_lt f n
  have h2 : 2 ^ n ≤ 2 ^ 8 := Nat.pow_le_pow_right (by omega) hn
  rw [pl0, peq (by omega) (by omega)]
theorem cleared_sync {G P L w : Nat} : ∀ n i (τ : nS) (r : Nat → Int32), CT τ 10 r G P L → WF r G P L → r 3 = nI (w + i) → w < 1000 → i ≤ 61 → 61 < n + i →
    ∃ v υ, fX5_cleared_b13 n (nI i) τ = some (v, υ) ∧ Fr 10 τ υ ∧ ∀ κ : nS, κ 65 = r → ∃ κ', fX6_cleared_b13 n (nI i) κ = some (v, κ') ∧ ∀ j, j ≠ 65 → κ' j = κ j := by
  intro n
  induction n with
  | zero => intro i τ r _ _ _ _ h1 h2; omega
  | succ n ih =>
    intro i τ r hc hw e hk h1 h2
    have hL := hw.2.2.1
    by_cases c : 60 < i
    · refine ⟨-4, τ, ?_, Fr.rf, fun κ e1 => ⟨κ, ?_, fun _ _ => rfl⟩⟩
      · simp (disch := omega) only [fX5_cleared_b13, pl60, plt, if_pos c]
      · simp (disch := omega) only [fX6_cleared_b13, pl60, plt, if_pos c]
    · by_cases c2 : bset (opn r) L = 0
      · refine ⟨nI i, τ, ?_, Fr.rf, fun κ e1 => ⟨κ, ?_, fun _ _ => rfl⟩⟩
        · simp (disch := omega) only [fX5_cleared_b13, pl60, plt, if_neg c, hc.2.2.2.1, bset_nz hL, if_pos c2]
        · have hw1 : WF (κ 65) G P L := by rw [e1]; exact hw
          simp (disch := omega) only [fX6_cleared_b13, pl60, plt, if_neg c, M_openIn hw1, pb, e1, bset_nz hL, if_pos c2]
      · obtain ⟨υ, a1, a2, a3⟩ := C_passWeek hc hw (show w + i + 1 < 2147483648 by omega) e
        obtain ⟨v, υ2, b1, b2, b3⟩ := ih (i + 1) υ (weekR r G L) a2 (WF_weekR hw) (by rw [weekR_3 hw.1, e, pinc]; rfl) hk (by omega) (by omega)
        refine ⟨v, υ2, ?_, a3.tr b2, fun κ e1 => ?_⟩
        · simp (disch := omega) only [fX5_cleared_b13, pl60, plt, if_neg c, hc.2.2.2.1, bset_nz hL, if_neg c2, a1, pnl, pb, pb2, pinc, pnin, pc0, if_pos, if_true, b1]
        · have hw1 : WF (κ 65) G P L := by rw [e1]; exact hw
          obtain ⟨κ', c3, c4⟩ := b3 (nU κ 65 (weekR (κ 65) G L)) (by rw [nU_s, e1])
          refine ⟨κ', ?_, fun j hj => by rw [c4 j hj, nU_n _ _ hj]⟩
          simp (disch := omega) only [fX6_cleared_b13, pl60, plt, if_neg c, M_openIn hw1, pnl, pb, pb2, p43, p344, p28, p66, pa0, pinc, pa2, pa3, pk0, pk1, pk2, pk3, tc0, tc1, tc2, tc3, pnin, pc0, if_pos, if_true, fX6_ofG, fX6_ofL, e1, bset_nz hL, if_neg c2, M_week hw1]
          rw [e1] at c3
          exact c3
theorem S_cleared {σ : nS} (I : Inv σ) : See σ fX5_cleared fX6_cleared := by
  obtain ⟨τ, r, G, P, L, w, e1, e2, e3, e4, e5, e6, e7, e8⟩ := mind I
  obtain ⟨v, υ, a1, a2, a3⟩ := cleared_sync 4096 0 τ r e3 e4 e5 e6 (by omega) (by omega)
  simp only [See, fX5_cleared, fX6_cleared, e1, pb2]
  have f := e2.tr a2
  obtain ⟨κ', b1, b2⟩ := a3 (nU υ 65 r) (by rw [nU_s])
  rw [pl0, a1]
  refine ⟨v, υ, κ', rfl, ?_, I.mind f (fun j hj => by rw [b2 j hj, nU_n _ _ hj])⟩
  rw [e7 υ (f 64 (by omega)) (f 65 (by omega)), pb2, b1]
theorem rch_rng {r : Nat → Int32} {G P L q w : Nat} (h : WF r G P L) (hq : q < P) (hw : w < 2147483648) (e : r 3 = nI w) : ∀ g, g ≤ G → ∃ v, v ≤ 64 * g ∧ rch r q g = nI v := by
  intro g
  induction g with
  | zero => intro _; exact ⟨0, by omega, rfl⟩
  | succ g ih =>
    intro hg
    obtain ⟨v, hv, ev⟩ := ih (by omega)
    obtain ⟨x, hx, ex⟩ := wth_rng h hq (show g < G by omega) hw e
    rw [rch]
    cases ownd r q g with
    | true => exact ⟨v + x, by omega, by rw [if_pos rfl, ev, ex, padd]⟩
    | false => exact ⟨v, by omega, by rw [if_neg (by decide), ev]⟩
theorem neg1_lt : ∀ v, v < 1000 → (nI v ≤ -1) = False := by
  intro v hv
  rw [le_ti, pti (by omega), tim1]
  simp; omega
theorem S_richest {σ : nS} (I : Inv σ) : Sff σ fX5_richest fX6_richest := by
  obtain ⟨G, P, L, w, hw, hc, h3, h4, hG, hP, hL⟩ := I.1.get
  simp only [Sff, fX5_richest, fX6_richest]
  generalize hlt : (fun p b => decide (rch (σ 64) b G < rch (σ 64) p G)) = lt
  have el : ∀ p b, lt p b = decide (rch (σ 64) b G < rch (σ 64) p G) := fun p b => by rw [← hlt]
  generalize hok : (fun _ : Nat => true) = ok
  have eo : ∀ p, ok p = true := fun p => by rw [← hok]
  have hb := bst_ok ok lt
  refine ⟨enc (bst ok lt P), ?_, ?_⟩
  · exact ploop (fun n i => fX5_richest_b7 n (enc (bst ok lt i)) (match bst ok lt i with | none => -1 | some b => rch (σ 64) b G) (nI i) σ) (some (enc (bst ok lt P))) P
      (fun n => by simp (disch := omega) only [fX5_richest_b7, pnl, pb, pb2, pinc, pnin, pc0, if_pos, if_true, hc.2.1, ple])
      (fun n i hi => by
        simp (disch := omega) only [fX5_richest_b7, pnl, pb, pb2, pinc, pnin, pc0, if_pos, if_true, hc.2.1, ple, if_neg, C_wealth hc hw hi]
        cases e : bst ok lt i with
        | none =>
          rw [bst_s_none e]
          obtain ⟨v, hv, ev⟩ := rch_rng hw hi (show w < 2147483648 by omega) h3 G (by omega)
          simp only [ev, neg1_lt v (by omega), if_false, eo, if_true, enc]
        | some b =>
          rw [bst_s_some e]
          simp only [eo, Bool.true_and, el]
          by_cases c : rch (σ 64) b G < rch (σ 64) i G
          · simp [c, Int32.not_le.mpr c, enc]
          · simp [c, Int32.not_lt.mp c, enc])
      4096 0 (by omega) (by omega)
  · exact ploop (fun n i => fX6_richest_b5 n (enc (bst ok lt i)) (nI i) σ) (some (enc (bst ok lt P))) P
      (fun n => by simp (disch := omega) only [fX6_richest_b5, pnl, pb, pb2, p43, p344, p28, p66, pa0, pinc, pa2, pa3, pk0, pk1, pk2, pk3, tc0, tc1, tc2, tc3, pnin, pc0, if_pos, if_true, fX6_ofG, fX6_ofL, hw.2.2.2.2.1, ple])
      (fun n i hi => by
        simp (disch := omega) only [fX6_richest_b5, pnl, pb, pb2, p43, p344, p28, p66, pa0, pinc, pa2, pa3, pk0, pk1, pk2, pk3, tc0, tc1, tc2, tc3, pnin, pc0, if_pos, if_true, fX6_ofG, fX6_ofL, hw.2.2.2.2.1, ple, if_neg]
        simp only [enc_neg _ (n := i) (by omega) (fun b hb9 => (hb i b hb9).1)]
        cases e : bst ok lt i with
        | none =>
          rw [bst_s_none e]
          simp [eo, enc]
        | some b =>
          rw [bst_s_some e]
          have hbi := (hb i b e).1
          simp only [enc, M_richesOf hw hi, M_richesOf hw (show b < P by omega), pb, eo, Bool.true_and, el]
          by_cases c : rch (σ 64) b G < rch (σ 64) i G
          · simp [c, Int32.not_le.mpr c, enc]
          · simp [c, Int32.not_lt.mp c, enc])
      4096 0 (by omega) (by omega)
theorem M_worstOf {q G P L : Nat} {σ : nS} (h : WF (σ 64) G P L) (hq : q < P) : fX6_worstOf (nI q) σ = some (enc (bst (ownd (σ 64) q) (fun g b => decide (wth (σ 64) q g < wth (σ 64) q b)) G)) := by
  have hG := h.1
  have hP := h.2.1
  generalize hlt : (fun g b => decide (wth (σ 64) q g < wth (σ 64) q b)) = lt
  have el : ∀ g b, lt g b = decide (wth (σ 64) q g < wth (σ 64) q b) := fun p b => by rw [← hlt]
  have hb := bst_ok (ownd (σ 64) q) lt
  rw [fX6_worstOf]
  exact ploop (fun n i => fX6_worstOf_b5 n (nI q) (enc (bst (ownd (σ 64) q) lt i)) (nI i) σ) (some (enc (bst (ownd (σ 64) q) lt G))) G
    (fun n => by simp (disch := omega) only [fX6_worstOf_b5, pnl, pb, pb2, p43, p344, p28, p66, pa0, pinc, pa2, pa3, pk0, pk1, pk2, pk3, tc0, tc1, tc2, tc3, pnin, pc0, if_pos, if_true, fX6_ofG, fX6_ofL, h.2.2.2.1, ple])
    (fun n i hi => by
      simp (disch := omega) only [fX6_worstOf_b5, pnl, pb, pb2, p43, p344, p28, p66, pa0, pinc, pa2, pa3, pk0, pk1, pk2, pk3, tc0, tc1, tc2, tc3, pnin, pc0, if_pos, if_true, fX6_ofG, fX6_ofL, h.2.2.2.1, ple, if_neg]
      simp only [enc_neg _ (n := i) (by omega) (fun b hb9 => (hb i b hb9).1)]
      by_cases c : σ 64 (4 + 3 * i + 2) = nI q
      · have co : ownd (σ 64) q i = true := by simp [ownd, c]
        cases e : bst (ownd (σ 64) q) lt i with
        | none =>
          rw [bst_s_none e]
          simp [c, co, enc]
        | some b =>
          rw [bst_s_some e]
          have hbi := (hb i b e).1
          simp only [enc, M_worthIn (show q < 6 by omega) (show i < 8 by omega), M_worthIn (show q < 6 by omega) (show b < 8 by omega), pb, co, Bool.true_and, el, c, if_true]
          by_cases c2 : wth (σ 64) q i < wth (σ 64) q b
          · simp [c2, Int32.not_le.mpr c2, enc]
          · simp [c2, Int32.not_lt.mp c2, enc]
      · have co : ownd (σ 64) q i = false := by simp [ownd, c]
        cases e : bst (ownd (σ 64) q) lt i with
        | none => rw [bst_s_none e]; simp [c, co]
        | some b => rw [bst_s_some e]; simp [c, co])
    4096 0 (by omega) (by omega)
theorem S_worst {σ : nS} (I : Inv σ) (x : Int32) : Sff σ (fX5_worst x) (fX6_worst x) := by
  obtain ⟨G, P, L, w, hw, hc, h3, h4, hG, hP, hL⟩ := I.1.get
  simp only [Sff, fX5_worst, fX6_worst, C_isPerson x hc.2.1 (show P ≤ 8 by omega), M_isPerson x hw.2.2.2.2.1 (show P ≤ 8 by omega), pb]
  cases h : decide (nin x P) with
  | false => simp only [bif0, if_true]; exact ⟨_, rfl, rfl⟩
  | true =>
    obtain ⟨q, hq, rfl⟩ := gtn h (by omega)
    simp only [bit0, if_false, C_goodsHad hc hw, C_least hc hw hq (show w < 2147483648 by omega) h3, M_worstOf hw hq, pb]
    exact ⟨_, rfl, rfl⟩
theorem qd_pos : ∀ a, a < 64 → ∀ b, b < 64 → ((nI a - nI b ≤ 0) ↔ (nI a ≤ nI b)) := by decide +kernel
theorem qd_neg : ∀ a, a < 64 → ∀ b, b < 64 → ((0 ≤ nI a - nI b) ↔ (nI b ≤ nI a)) := by decide +kernel
/-- whether to one of the first n people x is worth more than y -/
def qm (r : Nat → Int32) (x y : Nat) : Nat → Bool
  | 0 => false
  | q + 1 => qm r x y q || decide (wth r q y < wth r q x)
theorem C_isQuarrel {σ : nS} {k : Nat} {r : Nat → Int32} {G P L x y w : Nat} (h : CT σ k r G P L) (hw : WF r G P L) (hx : x < G) (hy : y < G) (hk : w < 2147483648) (e : r 3 = nI w) : fX4_isQuarrel k (nI x) (nI y) σ = some (bi (qm r x y P && qm r y x P)) := by
  have hP := hw.2.1
  rw [fX4_isQuarrel]
  exact ploop (fun n i => fX4_isQuarrel_b8 n k (nI x) (nI y) (bi (qm r x y i)) (bi (qm r y x i)) (nI i) σ) (some (bi (qm r x y P && qm r y x P))) P
    (fun n => by
      simp (disch := omega) only [fX4_isQuarrel_b8, pnl, pb, pb2, pinc, pnin, pc0, if_pos, if_true, h.2.1, ple]
      cases qm r x y P <;> cases qm r y x P <;> rfl)
    (fun n i hi => by
      obtain ⟨a, ha, ea⟩ := wth_rng hw hi hx hk e
      obtain ⟨b, hb, eb⟩ := wth_rng hw hi hy hk e
      simp (disch := omega) only [fX4_isQuarrel_b8, fX4_isQuarrel_b43, fX4_isQuarrel_b48, pnl, pb, pb2, pinc, pnin, pc0, if_pos, if_true, h.2.1, ple, if_neg, C_worthTo h hw hi hx, C_worthTo h hw hi hy, qm, ea, eb, plt]
      have q1 := qd_pos a ha b hb
      have q2 := qd_neg a ha b hb
      rw [ple (by omega) (by omega)] at q1 q2
      cases e1 : qm r x y i <;> cases e2 : qm r y x i <;> by_cases c1 : a ≤ b <;> by_cases c2 : b ≤ a <;> simp [bi, q1, q2, c1, c2, show (b < a) = (¬ a ≤ b) from propext (by omega), show (a < b) = (¬ b ≤ a) from propext (by omega)])
    4096 0 (by omega) (by omega)
theorem por_bb (a b : Bool) : bi a ||| bi b = bi (a || b) := by cases a <;> cases b <;> decide
theorem M_quarrelIn {σ : nS} {k G P L x y : Nat} (hw : WF (σ k) G P L) (hx : x < G) (hy : y < G) : fX6_quarrelIn k (nI x) (nI y) σ = some (bi (qm (σ k) x y P && qm (σ k) y x P)) := by
  have hP := hw.2.1
  have hG := hw.1
  rw [fX6_quarrelIn]
  exact ploop (fun n i => fX6_quarrelIn_b8 n k (nI x) (nI y) (bi (qm (σ k) x y i)) (bi (qm (σ k) y x i)) (nI i) σ) (some (bi (qm (σ k) x y P && qm (σ k) y x P))) P
    (fun n => by
      simp (disch := omega) only [fX6_quarrelIn_b8, pnl, pb, pb2, p43, p344, p28, p66, pa0, pinc, pa2, pa3, pk0, pk1, pk2, pk3, tc0, tc1, tc2, tc3, pnin, pc0, if_pos, if_true, fX6_ofG, fX6_ofL, hw.2.2.2.2.1, ple]
      cases qm (σ k) x y P <;> cases qm (σ k) y x P <;> rfl)
    (fun n i hi => by
      simp (disch := omega) only [fX6_quarrelIn_b8, fX6_quarrelIn_b39, pnl, pb, pb2, p43, p344, p28, p66, pa0, pinc, pa2, pa3, pk0, pk1, pk2, pk3, tc0, tc1, tc2, tc3, pnin, pc0, if_pos, if_true, fX6_ofG, fX6_ofL, hw.2.2.2.2.1, ple, if_neg, M_worthIn (show i < 6 by omega) (show x < 8 by omega), M_worthIn (show i < 6 by omega) (show y < 8 by omega), qm]
      have l1 : ∀ u v : Int32, (v < u) = (¬ u ≤ v) := fun u v => propext Int32.not_le.symm
      simp only [l1]
      cases e1 : qm (σ k) x y i <;> cases e2 : qm (σ k) y x i <;> by_cases c1 : wth (σ k) i x ≤ wth (σ k) i y <;> by_cases c2 : wth (σ k) i y ≤ wth (σ k) i x <;> simp [bi, c1, c2])
    4096 0 (by omega) (by omega)
theorem S_quarrel {σ : nS} (I : Inv σ) (x y : Int32) : Sff σ (fX5_quarrel x y) (fX6_quarrel x y) := by
  obtain ⟨G, P, L, w, hw, hc, h3, h4, hG, hP, hL⟩ := I.1.get
  simp only [Sff, fX5_quarrel, fX6_quarrel, C_isGoods x hc.1 hG, M_isGood x hw.2.2.2.1 hG, C_isGoods y hc.1 hG, M_isGood y hw.2.2.2.1 hG, pb]
  cases h : decide (nin x G) with
  | false => simp only [bif0, if_true]; exact ⟨_, rfl, rfl⟩
  | true =>
    obtain ⟨a, ha, rfl⟩ := gtn h (by omega)
    simp only [bit0, if_false]
    cases h2 : decide (nin y G) with
    | false => simp only [bif0, if_true]; exact ⟨_, rfl, rfl⟩
    | true =>
      obtain ⟨b, hb, rfl⟩ := gtn h2 (by omega)
      simp only [bit0, if_false]
      by_cases c : nI a = nI b
      · rw [if_pos c, if_pos c]; exact ⟨_, rfl, rfl⟩
      · rw [if_neg c, if_neg c, C_isQuarrel hc hw ha hb (show w < 2147483648 by omega) h3, M_quarrelIn hw ha hb, pb, pb]
        cases qm (σ 64) a b P && qm (σ 64) b a P <;> exact ⟨_, rfl, rfl⟩
def clsN (r : Nat → Int32) : Nat → Nat
  | 0 => 0
  | j + 1 => clsN r j ||| 2 ^ nat (r (66 + j))
theorem clsN_lt {r : Nat → Int32} {G P L : Nat} (h : WF r G P L) : ∀ j, j ≤ 8 → clsN r j < 256 := by
  intro j
  induction j with
  | zero => intro _; simp [clsN]
  | succ j ih =>
    intro hj
    obtain ⟨c, hc, ec⟩ := pof (h.2.2.2.2.2.2.2.2.2 j (by omega)) (by omega)
    rw [clsN, ec, nat_nI (by omega)]
    exact Nat.or_lt_two_pow (n := 8) (ih (by omega)) (Nat.pow_lt_pow_right (by omega) hc)
theorem S_count {σ : nS} (I : Inv σ) (x : Int32) : Sff σ (fX5_count x) (fX6_count x) := by
  obtain ⟨G, P, L, w, hw, hc, h3, h4, hG, hP, hL⟩ := I.1.get
  simp only [Sff, fX5_count, fX6_count, M_isIn2, pb]
  cases h : decide (nin x 3) with
  | true =>
    simp only [bit0, if_false]
    rcases gt3 h with rfl | rfl | rfl
    · exact ⟨nI G, by simp [hc.1], by simp only [pnl, pb, pb2, p43, p344, p28, p66, pa0, pinc, pa2, pa3, pk0, pk1, pk2, pk3, tc0, tc1, tc2, tc3, pnin, pc0, if_pos, if_true, fX6_ofG, fX6_ofL, hw.2.2.2.1]⟩
    · exact ⟨nI P, by simp [hc.2.1], by simp only [pnl, pb, pb2, p43, p344, p28, p66, pa0, pinc, pa2, pa3, pk0, pk1, pk2, pk3, tc0, tc1, tc2, tc3, pnin, pc0, if_pos, if_true, fX6_ofG, fX6_ofL, hw.2.2.2.2.1]⟩
    · exact ⟨nI L, by simp [hc.2.2.1], by simp only [pnl, pb, pb2, p43, p344, p28, p66, pa0, pinc, pa2, pa3, pk0, pk1, pk2, pk3, tc0, tc1, tc2, tc3, pnin, pc0, if_pos, if_true, fX6_ofG, fX6_ofL, hw.2.2.2.2.2.1]⟩
  | false =>
    obtain ⟨x0, x1, x2⟩ := gf3 h
    simp only [bif0, if_true, x0, x1, x2, if_false]
    by_cases c3 : x = 3
    · rw [if_pos c3, if_pos c3, M_openIn hw]; exact ⟨_, by rw [hc.2.2.2.1], rfl⟩
    rw [if_neg c3, if_neg c3]
    by_cases c4 : x = 4
    · rw [if_pos c4, if_pos c4]; exact ⟨_, rfl, by simp only [pnl, pb, pb2, p43, p344, p28, p66, pa0, pinc, pa2, pa3, pk0, pk1, pk2, pk3, tc0, tc1, tc2, tc3, pnin, pc0, if_pos, if_true, fX6_ofG, fX6_ofL, hc.2.2.2.2.1]⟩
    rw [if_neg c4, if_neg c4]
    by_cases c5 : x = 5
    · rw [if_pos c5, if_pos c5]
      have hcl := clsN_lt hw 8 (by omega)
      have k1 : fX4_classes 1 σ = some (cnt (clsN (σ 64) 8)) := by
        rw [fX4_classes]
        exact ploop (fun n i => fX4_classes_b4 n 1 (nI (clsN (σ 64) i)) (nI i) σ) (some (cnt (clsN (σ 64) 8))) 8
          (fun n => by simp (disch := omega) only [fX4_classes_b4, pnl, pb, pb2, pinc, pnin, pc0, if_pos, if_true, pl8, ple, pcntJ])
          (fun n i hi => by
            obtain ⟨d, hd, ed⟩ := pof (hw.2.2.2.2.2.2.2.2.2 i hi) (by omega)
            simp (disch := omega) only [fX4_classes_b4, pnl, pb, pb2, pinc, pnin, pc0, if_pos, if_true, pl8, ple, if_neg, hc.2.2.2.2.2.2.2.2 i hi, ed, pshl, por, clsN, nat_nI])
          4096 0 (by omega) (by omega)
      have k2 : fX6_count_b65 4096 0 0 σ = some (cnt (clsN (σ 64) 8)) :=
        ploop (fun n i => fX6_count_b65 n (nI (clsN (σ 64) i)) (nI i) σ) (some (cnt (clsN (σ 64) 8))) 8
          (fun n => by simp (disch := omega) only [fX6_count_b65, pnl, pb, pb2, p43, p344, p28, p66, pa0, pinc, pa2, pa3, pk0, pk1, pk2, pk3, tc0, tc1, tc2, tc3, pnin, pc0, if_pos, if_true, fX6_ofG, fX6_ofL, pl8, ple, pcnt6 σ hcl])
          (fun n i hi => by
            obtain ⟨d, hd, ed⟩ := pof (hw.2.2.2.2.2.2.2.2.2 i hi) (by omega)
            simp (disch := omega) only [fX6_count_b65, pnl, pb, pb2, p43, p344, p28, p66, pa0, pinc, pa2, pa3, pk0, pk1, pk2, pk3, tc0, tc1, tc2, tc3, pnin, pc0, if_pos, if_true, fX6_ofG, fX6_ofL, pl8, ple, if_neg, ed, pshl, por, clsN, nat_nI])
          4096 0 (by omega) (by omega)
      rw [k1, k2]
      exact ⟨_, rfl, rfl⟩
    rw [if_neg c5, if_neg c5]
    by_cases c6 : x = 6
    · rw [if_pos c6, if_pos c6, C_allWealth hc hw, M_richesAll hw]; exact ⟨_, rfl, rfl⟩
    rw [if_neg c6, if_neg c6]
    exact ⟨_, rfl, rfl⟩
