/-! PURE 4: the class's towns agree with a row -/
def CT (σ : nS) (k : Nat) (r : Nat → Int32) (G P L : Nat) : Prop :=
  σ k 3 = nI G ∧ σ k 5 = nI P ∧ σ k 9 = nI L ∧ σ k 10 = nI (bset (opn r) L) ∧ σ k 12 = r 3 ∧
  (∀ g, g < G → σ (k + 1) g = r (4 + 3 * g) ∧ σ (k + 2) g = r (4 + 3 * g + 1) ∧ σ (k + 3) g = r (4 + 3 * g + 2)) ∧
  (∀ q, q < P → σ (k + 4) q = r (28 + q)) ∧
  (∀ l, l < L → σ (k + 5) l = r (34 + 4 * l) ∧ σ (k + 6) l = r (34 + 4 * l + 1) ∧ σ (k + 7) l = r (34 + 4 * l + 2)) ∧
  (∀ j, j < 8 → σ (k + 8) j = r (66 + j))
/-- a town's cells -/
theorem CT.frame {σ τ : nS} {k : Nat} {r : Nat → Int32} {G P L : Nat} (h : CT σ k r G P L) (e : ∀ j, k ≤ j → j ≤ k + 8 → τ j = σ j) : CT τ k r G P L := by
  unfold CT at h ⊢
  rw [e k (by omega) (by omega), e (k+1) (by omega) (by omega), e (k+2) (by omega) (by omega), e (k+3) (by omega) (by omega), e (k+4) (by omega) (by omega), e (k+5) (by omega) (by omega), e (k+6) (by omega) (by omega), e (k+7) (by omega) (by omega), e (k+8) (by omega) (by omega)]
  exact h
theorem C_worthTo {σ : nS} {k : Nat} {r : Nat → Int32} {G P L q g : Nat} (h : CT σ k r G P L) (w : WF r G P L) (hq : q < P) (hg : g < G) : fX4_worthTo k (nI q) (nI g) σ = some (wth r q g) := by
  obtain ⟨c0, c1, c2, c3, c4, c5, c6, c7, c8⟩ := h
  have hG := w.1
  have hP := w.2.1
  obtain ⟨a1, a2, a3⟩ := c5 g hg
  simp (disch := omega) only [fX4_worthTo, pnl, pb, pb2, pinc, pnin, pc0, if_pos, if_true, a1, a2, c6 q hq, c4, E5_worthOf]
  rfl
theorem C_takenFor {σ : nS} {k : Nat} {r : Nat → Int32} {G P L q x : Nat} (h : CT σ k r G P L) (w : WF r G P L) (hq : q < P) (hx : x < G) : fX4_takenFor k (nI q) (nI x) σ = some (nI (bset (would r q x) G)) := by
  have hw := w
  obtain ⟨c0, c1, c2, c3, c4, c5, c6, c7, c8⟩ := h
  obtain ⟨hG, hP, hL, -, -, -, hg', hp', hl', hc⟩ := w
  obtain ⟨a1, a2, a3⟩ := c5 x hx
  simp (disch := omega) only [fX4_takenFor, pnl, pb, pb2, pinc, pnin, pc0, if_pos, if_true, a1, a2, c6 q hq, c4, E5_worthOf]
  refine ploop (fun n i => fX4_takenFor_b35 n k (nI x) (r (28 + q)) (worth (r (4 + 3 * x)) (r (4 + 3 * x + 1)) (r (28 + q)) (r 3)) (nI (bset (would r q x) i)) (nI i) σ) (some (nI (bset (would r q x) G))) G
    (fun n => by simp (disch := omega) only [fX4_takenFor_b35, pnl, pb, pb2, pinc, pnin, pc0, if_pos, if_true, c0, ple]) (fun n i hi => ?_) 4096 0 (by omega) (by omega)
  obtain ⟨b1, b2, b3⟩ := c5 i hi
  obtain ⟨a, ha, ea⟩ := pof (hg' x hx).1 (by omega)
  obtain ⟨b, hb, eb⟩ := pof (hg' i hi).1 (by omega)
  have e1 : clsOf r x = r (66 + a) := by rw [clsOf, ea, nat_nI (by omega)]
  have e2 : clsOf r i = r (66 + b) := by rw [clsOf, eb, nat_nI (by omega)]
  simp (disch := omega) only [fX4_takenFor_b35, fX4_takenFor_b75, pnl, pb, pb2, pinc, pnin, pc0, if_pos, if_true, c0, ple, if_neg, a1, b1, b2, c4, ea, eb, c8, E5_worthOf]
  have ew : would r q x i = (decide (¬ r (66 + a) = r (66 + b)) && decide (wth r q x ≤ wth r q i)) := by rw [would, e1, e2]
  have w1 : wth r q x = worth (nI a) (r (4 + 3 * x + 1)) (r (28 + q)) (r 3) := by rw [wth, ea]
  have w2 : wth r q i = worth (nI b) (r (4 + 3 * i + 1)) (r (28 + q)) (r 3) := by rw [wth, eb]
  by_cases c : r (66 + b) = r (66 + a)
  · have e : would r q x i = false := by rw [ew, c]; simp
    rw [if_pos c, if_neg (by decide), pbit0 (by simp [e])]
  · rw [if_neg c, ← w1, ← w2]
    by_cases c2 : wth r q i < wth r q x
    · have e : would r q x i = false := by rw [ew]; simp [Int32.not_le.mpr c2]
      rw [if_pos c2, pbit0 (by simp [e])]
    · have e : would r q x i = true := by rw [ew]; simp [Int32.not_lt.mp c2, Ne.symm c]
      rw [if_neg c2, pbit (by omega) e]
theorem C_goodsHad {σ : nS} {k : Nat} {r : Nat → Int32} {G P L q : Nat} (h : CT σ k r G P L) (w : WF r G P L) : fX4_goodsHad k (nI q) σ = some (nI (bset (ownd r q) G)) := by
  obtain ⟨c0, c1, c2, c3, c4, c5, c6, c7, c8⟩ := h
  have hG := w.1
  rw [fX4_goodsHad]
  exact ploop (fun n i => fX4_goodsHad_b4 n k (nI q) (nI (bset (ownd r q) i)) (nI i) σ) (some (nI (bset (ownd r q) G))) G
    (fun n => by simp (disch := omega) only [fX4_goodsHad_b4, pnl, pb, pb2, pinc, pnin, pc0, if_pos, if_true, c0, ple])
    (fun n i hi => by
      simp (disch := omega) only [fX4_goodsHad_b4, pnl, pb, pb2, pinc, pnin, pc0, if_pos, if_true, c0, ple, if_neg, (c5 i hi).2.2]
      by_cases e : r (4 + 3 * i + 2) = nI q
      · rw [if_pos e, pbit (f := ownd r q) (by omega) (by simp [ownd, e])]
      · rw [if_neg e, pbit0 (f := ownd r q) (by simp [ownd, e])])
    4096 0 (by omega) (by omega)
theorem bset_and (f g : Nat → Bool) (n : Nat) : bset f n &&& bset g n = bset (fun i => f i && g i) n := by
  apply bset_ext
  intro i
  rw [Nat.testBit_and, bset_bit, bset_bit]
  cases decide (i < n) <;> simp
theorem bset_0 (n : Nat) : bset (fun _ => false) n = 0 := by
  have h := bset_ext (a := 0) (f := fun _ => false) (n := n) (fun i => by simp)
  exact h.symm
theorem C_payers {σ : nS} {k : Nat} {r : Nat → Int32} {G P L l : Nat} (h : CT σ k r G P L) (w : WF r G P L) (hl : l < L) : fX4_payers k (nI l) σ = some (nI (bset (cpay r l) G)) := by
  have hc := h
  have hw := w
  obtain ⟨c0, c1, c2, c3, c4, c5, c6, c7, c8⟩ := h
  obtain ⟨hG, hP, hL, -, -, -, hg', hp', hl', -⟩ := w
  obtain ⟨h1, h2, h3, h4⟩ := hl' l hl
  obtain ⟨b1, b2, b3⟩ := c7 l hl
  obtain ⟨a, ha, ea⟩ := pof h1 (by omega)
  obtain ⟨d, hd, ed⟩ := pof h2 (by omega)
  obtain ⟨x, hx, ex⟩ := pof h3 (by omega)
  rw [fX4_payers, c3, phas5 σ (by omega) (by omega), pb]
  simp (disch := omega) only [pnl, pb, pb2, pinc, pnin, pc0, if_pos, if_true, bi0, b1, b2, b3, ea, ed, ex, C_goodsHad hc hw, C_takenFor hc hw ha hx, pand, bset_and]
  by_cases c : opn r l = true
  · have c' : r (34 + 4 * l + 3) = 1 := by simpa [opn] using c
    rw [if_neg (by simp [hl, c])]
    congr 2
    apply bset_congr
    intro i hi
    simp [cpay, c', ownd, ea, ed, ex, nat_nI (show a < 2147483648 by omega), nat_nI (show x < 2147483648 by omega)]
  · have c' : ¬ r (34 + 4 * l + 3) = 1 := by simpa [opn] using c
    rw [if_pos (by simp [c])]
    have e : bset (cpay r l) G = 0 := by
      rw [← bset_0 G]
      apply bset_congr
      intro i hi
      simp [cpay, c']
    rw [e]
    rfl
/-- worths are small: with a week that is no less than 0 -/
theorem worth_small : ∀ k, k < 8 → ∀ f, f < 10 → ∀ t, t < 10 → ∀ m3, m3 < 3 → ∀ m2, m2 < 2 → 0 ≤ (
  if nI k = 1 then 6 + nI f else if nI k = 2 then nI f + 2 + nI t / 2 - nI m3 else if nI k = 3 then nI t
  else if nI k = 4 then (if 0 ≤ 2 * nI t - nI m2 then 2 * nI t - nI m2 else 0)
  else if nI k = 5 then 9 - nI t else if nI k = 6 then (nI f + 2 + nI t / 2 - nI m3) / 2
  else if nI k = 7 then (nI f + 2 + nI t / 2 - nI m3) / 2 + nI f + 3 else nI f + 2).toInt ∧ (
  if nI k = 1 then 6 + nI f else if nI k = 2 then nI f + 2 + nI t / 2 - nI m3 else if nI k = 3 then nI t
  else if nI k = 4 then (if 0 ≤ 2 * nI t - nI m2 then 2 * nI t - nI m2 else 0)
  else if nI k = 5 then 9 - nI t else if nI k = 6 then (nI f + 2 + nI t / 2 - nI m3) / 2
  else if nI k = 7 then (nI f + 2 + nI t / 2 - nI m3) / 2 + nI f + 3 else nI f + 2).toInt < 64 := by decide +kernel
theorem worth_rng {k f t : Int32} {w : Nat} (hk : nin k 8) (hf : nin f 10) (ht : nin t 10) (hw : w < 2147483648) : ∃ v, v < 64 ∧ worth k f t (nI w) = nI v := by
  obtain ⟨k, h1, rfl⟩ := pof hk (by omega)
  obtain ⟨f, h2, rfl⟩ := pof hf (by omega)
  obtain ⟨t, h3, rfl⟩ := pof ht (by omega)
  have e3 : nI w - nI w / 3 * 3 = nI (w % 3) := by rw [pl3]; exact pk_rem (by omega) (by omega) (by omega)
  have e2 : nI w - nI w / 2 * 2 = nI (w % 2) := by rw [pl2]; exact pk_rem (by omega) (by omega) (by omega)
  have h := worth_small k h1 f h2 t h3 (w % 3) (Nat.mod_lt _ (by omega)) (w % 2) (Nat.mod_lt _ (by omega))
  rw [← e3, ← e2] at h
  have h9 : 0 ≤ (worth (nI k) (nI f) (nI t) (nI w)).toInt ∧ (worth (nI k) (nI f) (nI t) (nI w)).toInt < (64 : Nat) := h
  exact pof h9 (by omega)
theorem wth_rng {r : Nat → Int32} {G P L q g w : Nat} (h : WF r G P L) (hq : q < P) (hg : g < G) (hw : w < 2147483648) (e : r 3 = nI w) : ∃ v, v < 64 ∧ wth r q g = nI v := by
  rw [wth, e]
  exact worth_rng (h.2.2.2.2.2.2.1 g hg).1 (h.2.2.2.2.2.2.1 g hg).2.1 (h.2.2.2.2.2.2.2.1 q hq) hw
theorem sg_neg : ∀ a, a < 64 → ∀ b, b < 64 → ((-1 : Int32) * nI a ≤ (-1 : Int32) * nI b ↔ nI b ≤ nI a) := by decide +kernel
theorem sg_pos : ∀ a, a < 64 → ∀ b, b < 64 → ((1 : Int32) * nI a ≤ (1 : Int32) * nI b ↔ nI a ≤ nI b) := by decide +kernel
/-- the choice of the class: best by the signed worth -/
theorem C_choice {σ : nS} {k : Nat} {r : Nat → Int32} {G P L q : Nat} {ok : Nat → Bool} (sg : Int32) (lt : Nat → Nat → Bool) (h : CT σ k r G P L) (w : WF r G P L) (hq : q < P)
    (hlt : ∀ g b, g < G → b < G → (sg * wth r q g ≤ sg * wth r q b ↔ lt g b = false)) : fX4_choice k (nI q) (nI (bset ok G)) sg σ = some (enc (bst ok lt G)) := by
  have hc := h
  have hw := w
  obtain ⟨c0, c1, c2, c3, c4, c5, c6, c7, c8⟩ := h
  have hG := w.1
  rw [fX4_choice]
  refine ploop (fun n i => fX4_choice_b10 n k (nI q) (nI (bset ok G)) sg (enc (bst ok lt i)) (match bst ok lt i with | none => 0 | some b => sg * wth r q b) (nI i) σ) (some (enc (bst ok lt G))) G
    (fun n => by simp (disch := omega) only [fX4_choice_b10, pnl, pb, pb2, pinc, pnin, pc0, if_pos, if_true, c0, ple]) (fun n i hi => ?_) 4096 0 (by omega) (by omega)
  have hb := bst_ok ok lt i
  simp (disch := omega) only [fX4_choice_b10, pnl, pb, pb2, pinc, pnin, pc0, if_pos, if_true, c0, ple, if_neg, C_worthTo hc hw hq hi, phas5, bi0]
  simp only [enc_neg _ (n := i) (by omega) (fun b hb9 => (hb b hb9).1)]
  cases e : bst ok lt i with
  | none =>
    rw [bst_s_none e]
    cases ok i <;> simp [enc, hi]
  | some b =>
    rw [bst_s_some e]
    have hbi := (hb b e).1
    have hl := hlt i b hi (by omega)
    cases ok i with
    | false => simp [enc]
    | true =>
      cases e2 : lt i b with
      | true => simp [hi, enc, hl, e2]
      | false => simp [hi, enc, hl, e2]
theorem C_least {σ : nS} {k : Nat} {r : Nat → Int32} {G P L q wk : Nat} {ok : Nat → Bool} (h : CT σ k r G P L) (w : WF r G P L) (hq : q < P) (hw : wk < 2147483648) (e : r 3 = nI wk) :
    fX4_choice k (nI q) (nI (bset ok G)) (-1) σ = some (enc (bst ok (fun g b => decide (wth r q g < wth r q b)) G)) := by
  refine C_choice (-1) _ h w hq (fun g b hg hb => ?_)
  obtain ⟨x, hx, ex⟩ := wth_rng w hq hg hw e
  obtain ⟨y, hy, ey⟩ := wth_rng w hq hb hw e
  rw [ex, ey, sg_neg x hx y hy]
  simp [Int32.not_lt]
theorem C_most {σ : nS} {k : Nat} {r : Nat → Int32} {G P L q wk : Nat} {ok : Nat → Bool} (h : CT σ k r G P L) (w : WF r G P L) (hq : q < P) (hw : wk < 2147483648) (e : r 3 = nI wk) :
    fX4_choice k (nI q) (nI (bset ok G)) 1 σ = some (enc (bst ok (fun g b => decide (wth r q b < wth r q g)) G)) := by
  refine C_choice 1 _ h w hq (fun g b hg hb => ?_)
  obtain ⟨x, hx, ex⟩ := wth_rng w hq hg hw e
  obtain ⟨y, hy, ey⟩ := wth_rng w hq hb hw e
  rw [ex, ey, sg_pos x hx y hy]
  simp [Int32.not_lt]
