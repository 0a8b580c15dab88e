/-! PURE 40: the reference reads a statement -/
def TX (τ : nS) (d N : Nat) (c : Nat → Int32) : Prop := τ 63 7 = nI N ∧ τ 63 6 = nI (100 * d) ∧ ∀ i, i < 100 → τ 77 (100 * d + i) = c i
def FT (τ τ' : nS) : Prop := (∀ j, j ≠ 63 → j ≠ 68 → τ' j = τ j) ∧ ∀ s, s ≠ 5 → τ' 63 s = τ 63 s
theorem FT.rf {τ : nS} : FT τ τ := ⟨fun _ _ _ => rfl, fun _ _ => rfl⟩
theorem FT.tr {σ τ υ : nS} (h1 : FT σ τ) (h2 : FT τ υ) : FT σ υ := ⟨fun j a b => (h2.1 j a b).trans (h1.1 j a b), fun q a => (h2.2 q a).trans (h1.2 q a)⟩
theorem TX.ft {τ τ' : nS} {d N : Nat} {c : Nat → Int32} (h : TX τ d N c) (f : FT τ τ') : TX τ' d N c := by
  unfold TX at h ⊢
  rw [f.2 7 (by omega), f.2 6 (by omega), f.1 77 (by omega) (by omega)]
  exact h
def plc (τ : nS) (i : Nat) : nS := nU τ 63 (upd (τ 63) 5 (nI i))
theorem plc_5 (τ : nS) (i : Nat) : plc τ i 63 5 = nI i := by unfold plc; rw [nU_s, upd_s]
theorem plc_ft (τ : nS) (i : Nat) : FT τ (plc τ i) := ⟨fun j a _ => nU_n _ _ a, fun s a => by unfold plc; rw [nU_s, upd_n _ _ a]⟩
theorem plc_o (τ : nS) (i : Nat) {j : Nat} (h : j ≠ 63) : plc τ i j = τ j := nU_n _ _ h
theorem M_here {τ : nS} {d N q : Nat} {c : Nat → Int32} (h : TX τ d N c) (hd : d < 8) (hN : N ≤ 100) (hq : q < 1000) (e : τ 63 5 = nI q) : fX6_here τ = some (if q < N then c q &&& 255 else -1) := by
  obtain ⟨h1, h2, h3⟩ := h
  have l : (nI N ≤ nI q) = (N ≤ q) := ple (by omega) (by omega)
  rw [fX6_here, h1, e, h2]
  by_cases k : q < N
  · rw [if_neg (by rw [l]; omega), if_pos k, padd, if_pos (pnin0 (by omega) (by omega)), pc0 (by omega), h3 q (by omega)]
  · rw [if_pos (by rw [l]; omega), if_neg k]
theorem M_isdig (x : Int32) (σ : nS) : fX6_isIn x 48 57 σ = some (bi (isd x)) := by
  rw [M_isIn, ti48, ti57, isd]
def bts (c : Nat → Int32) : Prop := ∀ i, i < 100 → -128 ≤ (c i).toInt ∧ (c i).toInt < 128
theorem isd_here {c : Nat → Int32} {N q : Nat} (hb : bts c) (hN : N ≤ 100) : isd (if q < N then c q &&& 255 else -1) = (decide (q < N) && isd (c q)) := by
  by_cases k : q < N
  · rw [if_pos k, decide_eq_true k, Bool.true_and]
    exact (byte_of (hb q (by omega))).2.2.2.2.2.2.1
  · rw [if_neg k, decide_eq_false k, Bool.false_and]
    decide
def adv (τ : nS) (k i : Nat) (x : Int32) : nS := nU (nU τ 68 (upd (τ 68) k ((10 : Int32) * τ 68 k + x - 48))) 63 (upd (τ 63) 5 (nI (i + 1)))
theorem adv_ft (τ : nS) (k i : Nat) (x : Int32) : FT τ (adv τ k i x) := ⟨fun j a b => by unfold adv; rw [nU_n _ _ a, nU_n _ _ b], fun s a => by unfold adv; rw [nU_s, upd_n _ _ a]⟩
theorem adv_5 (τ : nS) (k i : Nat) (x : Int32) : adv τ k i x 63 5 = nI (i + 1) := by unfold adv; rw [nU_s, upd_s]
theorem adv_k (τ : nS) (k i : Nat) (x : Int32) : adv τ k i x 68 k = (10 : Int32) * τ 68 k + x - 48 := by unfold adv; rw [nU_n _ _ (by omega), nU_s, upd_s]
theorem adv_n (τ : nS) {k k' : Nat} (i : Nat) (x : Int32) (h : k' ≠ k) : adv τ k i x 68 k' = τ 68 k' := by unfold adv; rw [nU_n _ _ (by omega), nU_s, upd_n _ _ h]
theorem M_b9 {τ : nS} {d N n k D a i : Nat} {c : Nat → Int32} (h : TX τ d N c) (hb : bts c) (hd : d < 8) (hN : N ≤ 100) (hk : k < 3) (hi : i < 1000) (ha : a < D) (hD : D < 10) (e : τ 63 5 = nI i) : fX6_readsNumber_b9 (n + 1) (nI k) (nI D) (nI a) τ = if i < N ∧ isd (c i) = true then fX6_readsNumber_b9 n (nI k) (nI D) (nI (a + 1)) (adv τ k i (c i)) else some (0, τ) := by
  have c' : ¬ nI D ≤ nI a := by rw [ple (by omega) (by omega)]; omega
  have n3 : nin (nI k) 3 := pnin0 (by omega) hk
  have n4 : (nI k).toNatClampNeg = k := pc0 (by omega)
  rw [fX6_readsNumber_b9, if_neg c', M_here h hd hN hi e, pb, M_isdig, pb, isd_here hb hN]
  by_cases q : i < N
  · cases q2 : isd (c i) with
    | true =>
      have eb := ((byte_of (hb i (by omega))).2.2.2.2.2.2.2 q2).1
      rw [decide_eq_true q, if_neg (by decide), if_pos n3, pb, if_pos n3, if_pos q, eb, n4, pnl, pnl, pnl, pinc, if_pos ⟨q, rfl⟩, nU_n (j := 63) _ _ (by omega), e, pinc]
      rfl
    | false => rw [decide_eq_true q, if_pos (by decide), if_neg (fun z => by cases z.2)]
  · rw [decide_eq_false q, Bool.false_and, if_pos bi_f, if_neg (fun z => q z.1)]
theorem M_b9e {τ : nS} {n k D : Nat} (hD : D < 10) : fX6_readsNumber_b9 (n + 1) (nI k) (nI D) (nI D) τ = some (1, τ) := by
  rw [fX6_readsNumber_b9, if_pos (by rw [ple (by omega) (by omega)]; omega)]
def zer (τ : nS) (k : Nat) : nS := nU τ 68 (upd (τ 68) k 0)
theorem zer_ft (τ : nS) (k : Nat) : FT τ (zer τ k) := ⟨fun j _ b => nU_n _ _ b, fun s a => by unfold zer; rw [nU_n _ _ (by omega)]⟩
/-- one digit -/
theorem M_n1 {τ : nS} {d N k i : Nat} {c : Nat → Int32} (h : TX τ d N c) (hb : bts c) (hd : d < 8) (hN : N ≤ 100) (hk : k < 3) (hi : i < 1000) (e : τ 63 5 = nI i) :
    ∃ τ', FT τ τ' ∧ (∀ k', k' ≠ k → τ' 68 k' = τ 68 k') ∧ (i < N ∧ isd (c i) = true → fX6_readsNumber (nI k) 1 τ = some (1, τ') ∧ τ' 63 5 = nI (i + 1) ∧ τ' 68 k = c i - 48) ∧ (¬ (i < N ∧ isd (c i) = true) → fX6_readsNumber (nI k) 1 τ = some (0, τ') ∧ τ' 63 5 = nI i) := by
  have n3 : nin (nI k) 3 := pnin0 (by omega) hk
  have n4 : (nI k).toNatClampNeg = k := pc0 (by omega)
  have hz := h.ft (zer_ft τ k)
  have ez : (zer τ k) 63 5 = nI i := by unfold zer; rw [nU_n _ _ (by omega)]; exact e
  have e1 : fX6_readsNumber (nI k) 1 τ = if i < N ∧ isd (c i) = true then some (1, adv (zer τ k) k i (c i)) else some (0, zer τ k) := by
    rw [fX6_readsNumber, if_pos n3, n4, pnl, pl0, pl1]
    have h9 := M_b9 (n := 4095) (a := 0) (D := 1) hz hb hd hN hk hi (by omega) (by omega) ez
    rw [M_b9e (by omega)] at h9
    exact h9
  by_cases q : i < N ∧ isd (c i) = true
  · rw [if_pos q] at e1
    refine ⟨adv (zer τ k) k i (c i), (zer_ft τ k).tr (adv_ft _ _ _ _), fun k' hk' => ?_, fun _ => ⟨e1, adv_5 _ _ _ _, ?_⟩, fun q2 => absurd q q2⟩
    · rw [adv_n _ _ _ hk']; unfold zer; rw [nU_s, upd_n _ _ hk']
    · rw [adv_k]; unfold zer; rw [nU_s, upd_s, Int32.mul_zero, Int32.zero_add]
  · rw [if_neg q] at e1
    refine ⟨zer τ k, zer_ft τ k, fun k' hk' => ?_, fun q2 => absurd q2 q, fun _ => ⟨e1, ez⟩⟩
    unfold zer; rw [nU_s, upd_n _ _ hk']
theorem add_sub3 (a b x : Int32) : a + b - x = a + (b - x) := by
  rw [Int32.sub_eq_add_neg, Int32.sub_eq_add_neg, Int32.add_assoc]
/-- two digits -/
theorem M_n2 {τ : nS} {d N i : Nat} {c : Nat → Int32} (h : TX τ d N c) (hb : bts c) (hd : d < 8) (hN : N ≤ 100) (hi : i < 900) (e : τ 63 5 = nI i) :
    ∃ τ', FT τ τ' ∧ (¬ (i < N ∧ isd (c i) = true) → fX6_readsNumber 0 2 τ = some (0, τ') ∧ τ' 63 5 = nI i) ∧ (i < N ∧ isd (c i) = true → ¬ (i + 1 < N ∧ isd (c (i + 1)) = true) → fX6_readsNumber 0 2 τ = some (0, τ') ∧ τ' 63 5 = nI (i + 1)) ∧
      (i < N ∧ isd (c i) = true → i + 1 < N ∧ isd (c (i + 1)) = true → fX6_readsNumber 0 2 τ = some (1, τ') ∧ τ' 63 5 = nI (i + 2) ∧ τ' 68 0 = (10 : Int32) * (c i - 48) + (c (i + 1) - 48)) := by
  have hz := h.ft (zer_ft τ 0)
  have ez : (zer τ 0) 63 5 = nI i := by unfold zer; rw [nU_n _ _ (by omega)]; exact e
  have h9 := M_b9 (n := 4095) (k := 0) (a := 0) (D := 2) hz hb hd hN (by omega) (by omega) (by omega) (by omega) ez
  have ez2 := adv_5 (zer τ 0) 0 i (c i)
  have h10 := M_b9 (n := 4094) (k := 0) (a := 0 + 1) (D := 2) (hz.ft (adv_ft _ 0 i (c i))) hb hd hN (by omega) (by omega) (by omega) (by omega) ez2
  rw [M_b9e (by omega)] at h10
  rw [h10] at h9
  have e1 : fX6_readsNumber 0 2 τ = fX6_readsNumber_b9 (4095 + 1) (nI 0) (nI 2) (nI 0) (zer τ 0) := by
    rw [fX6_readsNumber, if_pos (by decide), tc0, pnl]; rfl
  rw [← e1] at h9
  by_cases q : i < N ∧ isd (c i) = true
  · rw [if_pos q] at h9
    by_cases q2 : i + 1 < N ∧ isd (c (i + 1)) = true
    · rw [if_pos q2] at h9
      refine ⟨_, ((zer_ft τ 0).tr (adv_ft _ 0 i (c i))).tr (adv_ft _ 0 (i + 1) (c (i + 1))), fun z => absurd q z, fun _ z => absurd q2 z, fun _ _ => ⟨h9, adv_5 _ _ _ _, ?_⟩⟩
      rw [adv_k, adv_k]; unfold zer; rw [nU_s, upd_s, Int32.mul_zero, Int32.zero_add]; exact add_sub3 _ _ _
    · rw [if_neg q2] at h9
      exact ⟨_, (zer_ft τ 0).tr (adv_ft _ 0 i (c i)), fun z => absurd q z, fun _ _ => ⟨h9, adv_5 _ _ _ _⟩, fun _ z => absurd z q2⟩
  · rw [if_neg q] at h9
    exact ⟨_, zer_ft τ 0, fun _ => ⟨h9, ez⟩, fun z => absurd z q, fun z => absurd z q⟩
theorem M_semi {τ : nS} {d N i : Nat} {c : Nat → Int32} (h : TX τ d N c) (hb : bts c) (hd : d < 8) (hN : N ≤ 100) (hi : i < 1000) (e : τ 63 5 = nI i) : (i < N ∧ c i = 59 → fX6_readsStatement_b163 1 τ = some (1, plc τ (i + 1))) ∧ (¬ (i < N ∧ c i = 59) → fX6_readsStatement_b163 1 τ = some (0, τ)) := by
  rw [fX6_readsStatement_b163, if_neg (by decide), M_here h hd hN hi e, pb]
  refine ⟨fun q => ?_, fun q => ?_⟩
  · rw [if_pos q.1, if_pos ((byte_of (hb i (by omega))).2.2.2.2.2.1.mpr q.2), pnl, e, pinc]
    rfl
  · by_cases k : i < N
    · rw [if_pos k, if_neg (fun z => q ⟨k, (byte_of (hb i (by omega))).2.2.2.2.2.1.mp z⟩)]
    · rw [if_neg k, if_neg (by decide)]
