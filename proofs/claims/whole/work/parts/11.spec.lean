/-! PURE 2: the worth, and what a row of 74 numbers says of a town -/
def worth (k f t w : Int32) : Int32 :=
  if k = 1 then 6 + f else if k = 2 then f + 2 + t / 2 - (w - w / 3 * 3) else if k = 3 then t
  else if k = 4 then (if 0 ≤ 2 * t - (w - w / 2 * 2) then 2 * t - (w - w / 2 * 2) else 0)
  else if k = 5 then 9 - t else if k = 6 then (f + 2 + t / 2 - (w - w / 3 * 3)) / 2
  else if k = 7 then (f + 2 + t / 2 - (w - w / 3 * 3)) / 2 + f + 3 else f + 2
theorem E5_worthOf (k f t w : Int32) (σ : nS) : fX5_worthOf k f t w σ = some (worth k f t w) := by
  simp only [fX5_worthOf, nl, worth]
  split <;> (try rfl)
  split <;> (try rfl)
  split <;> (try rfl)
  split <;> (try rfl)
  · split <;> rfl
  split <;> (try rfl)
  split <;> (try rfl)
  split <;> rfl
theorem E6_worthBy (k f t w : Int32) (σ : nS) : fX6_worthBy k f t w σ = some (worth k f t w) := by
  simp only [fX6_worthBy, fX6_most, nl, worth, Option.bind]
  split <;> (try rfl)
  split <;> (try rfl)
  split <;> (try rfl)
  split <;> (try rfl)
  · by_cases c : 0 ≤ 2 * t - (w - w / 2 * 2) <;> simp [c]
  split <;> (try rfl)
  split <;> (try rfl)
  split
  · rw [Int32.add_assoc, Int32.add_comm 3 f, ← Int32.add_assoc]
  · rfl
def wth (r : Nat → Int32) (p g : Nat) : Int32 := worth (r (4 + 3 * g)) (r (4 + 3 * g + 1)) (r (28 + p)) (r 3)
def nat (x : Int32) : Nat := x.toNatClampNeg
theorem nat_nI {n : Nat} (h : n < 2147483648) : nat (nI n) = n := pc0 h
def clsOf (r : Nat → Int32) (g : Nat) : Int32 := r (66 + nat (r (4 + 3 * g)))
def would (r : Nat → Int32) (p x y : Nat) : Bool := decide (¬ clsOf r x = clsOf r y) && decide (wth r p x ≤ wth r p y)
def cpay (r : Nat → Int32) (l g : Nat) : Bool := decide (r (34 + 4 * l + 3) = 1) && (decide (r (4 + 3 * g + 2) = r (34 + 4 * l + 1)) && would r (nat (r (34 + 4 * l))) (nat (r (34 + 4 * l + 2))) g)
theorem M_worthIn {k p g : Nat} {σ : nS} (hp : p < 6) (hg : g < 8) : fX6_worthIn k (nI p) (nI g) σ = some (wth (σ k) p g) := by
  simp (disch := omega) only [fX6_worthIn, pnl, pb, pb2, p43, p344, p28, p66, pa0, pinc, pa2, pa3, pk0, pk1, pk2, pk3, tc0, tc1, tc2, tc3, pnin, pc0, if_pos, if_true, fX6_ofG, fX6_ofL, E6_worthBy]
  rfl
theorem M_areSame {k x y : Nat} {σ : nS} (hx : x < 8) (hy : y < 8) (kx : nin (σ k (4 + 3 * x)) 8) (ky : nin (σ k (4 + 3 * y)) 8) : fX6_areSame k (nI x) (nI y) σ = some (bi (decide (clsOf (σ k) x = clsOf (σ k) y))) := by
  obtain ⟨a, ha, ea⟩ := pof kx (by omega)
  obtain ⟨b, hb, eb⟩ := pof ky (by omega)
  have e1 : clsOf (σ k) x = σ k (66 + a) := by rw [clsOf, ea, nat_nI (by omega)]
  have e2 : clsOf (σ k) y = σ k (66 + b) := by rw [clsOf, eb, nat_nI (by omega)]
  rw [e1, e2]
  simp (disch := omega) only [fX6_areSame, pnl, pb, pb2, p43, p344, p28, p66, pa0, pinc, pa2, pa3, pk0, pk1, pk2, pk3, tc0, tc1, tc2, tc3, pnin, pc0, if_pos, if_true, fX6_ofG, fX6_ofL, ea, eb]
  exact bi_if
theorem M_wouldIn {k p x y : Nat} {σ : nS} (hp : p < 6) (hx : x < 8) (hy : y < 8) (kx : nin (σ k (4 + 3 * x)) 8) (ky : nin (σ k (4 + 3 * y)) 8) : fX6_wouldIn k (nI p) (nI x) (nI y) σ = some (bi (would (σ k) p x y)) := by
  rw [fX6_wouldIn, M_areSame hx hy kx ky, pb, M_worthIn hp hy, pb, M_worthIn hp hx, pb, would]
  simp only [bi0]
  by_cases h : clsOf (σ k) x = clsOf (σ k) y
  · simp [h, bi]
  · simp only [h, decide_false, if_true, not_false_eq_true, decide_true, Bool.true_and]
    by_cases h2 : wth (σ k) p y < wth (σ k) p x
    · have h3 : ¬ wth (σ k) p x ≤ wth (σ k) p y := Int32.not_le.mpr h2
      rw [if_pos h2]
      simp [h3, bi]
    · have h3 : wth (σ k) p x ≤ wth (σ k) p y := Int32.not_lt.mp h2
      rw [if_neg h2]
      simp [h3, bi]
/-- the row of a town: its numbers in their ranges -/
def WF (r : Nat → Int32) (G P L : Nat) : Prop :=
  G ≤ 8 ∧ P ≤ 6 ∧ L ≤ 8 ∧ r 0 = nI G ∧ r 1 = nI P ∧ r 2 = nI L ∧
  (∀ g, g < G → nin (r (4 + 3 * g)) 8 ∧ nin (r (4 + 3 * g + 1)) 10 ∧ nin (r (4 + 3 * g + 2)) P) ∧
  (∀ q, q < P → nin (r (28 + q)) 10) ∧
  (∀ l, l < L → nin (r (34 + 4 * l)) P ∧ nin (r (34 + 4 * l + 1)) P ∧ nin (r (34 + 4 * l + 2)) G ∧ (r (34 + 4 * l + 3) = 0 ∨ r (34 + 4 * l + 3) = 1)) ∧
  (∀ j, j < 8 → nin (r (66 + j)) 8)
theorem nin_n {x : Int32} {n : Nat} (h : nin x n) (hm : n < 2147483648) : nat x < n ∧ x = nI (nat x) := by
  obtain ⟨a, ha, rfl⟩ := pof h hm
  rw [nat_nI (by omega)]
  exact ⟨ha, rfl⟩
theorem M_canPayIn {k l g G P L : Nat} {σ : nS} (h : WF (σ k) G P L) (hl : l < L) (hg : g < G) : fX6_canPayIn k (nI l) (nI g) σ = some (bi (cpay (σ k) l g)) := by
  obtain ⟨hG, hP, hL, -, -, -, hg', hp', hl', -⟩ := h
  obtain ⟨h1, h2, h3, h4⟩ := hl' l hl
  obtain ⟨a, ha, ea⟩ := pof h1 (by omega)
  obtain ⟨w, hw, ew⟩ := pof h3 (by omega)
  have hw1 := (hg' w hw).1
  have hg1 := (hg' g hg).1
  have e1 : nat (σ k (34 + 4 * l)) = a := by rw [ea, nat_nI (by omega)]
  have e2 : nat (σ k (34 + 4 * l + 2)) = w := by rw [ew, nat_nI (by omega)]
  rw [cpay, e1, e2]
  simp (disch := omega) only [fX6_canPayIn, pnl, pb, pb2, p43, p344, p28, p66, pa0, pinc, pa2, pa3, pk0, pk1, pk2, pk3, tc0, tc1, tc2, tc3, pnin, pc0, if_pos, if_true, fX6_ofG, fX6_ofL, ea, ew, M_wouldIn (show a < 6 by omega) (show w < 8 by omega) (show g < 8 by omega) hw1 hg1, bi0]
  by_cases c1 : σ k (34 + 4 * l + 3) = 1
  · by_cases c2 : σ k (4 + 3 * g + 2) = σ k (34 + 4 * l + 1)
    · cases would (σ k) a w g <;> simp [c1, c2, bi]
    · simp [c1, c2, bi]
  · simp [c1, bi]
/-- the best below n of those that are ok, the first of equals -/
def bst (ok : Nat → Bool) (lt : Nat → Nat → Bool) : Nat → Option Nat
  | 0 => none
  | n + 1 => match bst ok lt n with
    | none => if ok n = true then some n else none
    | some b => if (ok n && lt n b) = true then some n else some b
def enc (o : Option Nat) : Int32 := match o with | none => -4 | some g => nI g
theorem bst_ok (ok : Nat → Bool) (lt : Nat → Nat → Bool) : ∀ n b, bst ok lt n = some b → b < n ∧ ok b = true := by
  intro n
  induction n with
  | zero => intro b h; cases h
  | succ n ih =>
    intro b h
    rw [bst] at h
    cases e : bst ok lt n with
    | none =>
      rw [e] at h
      simp only at h
      split at h
      · rename_i q; cases h; exact ⟨by omega, q⟩
      · cases h
    | some c =>
      rw [e] at h
      simp only at h
      have := ih c e
      split at h
      · rename_i q; cases h; simp at q; exact ⟨by omega, q.1⟩
      · cases h; exact ⟨by omega, this.2⟩
theorem enc_neg (o : Option Nat) {n : Nat} (hn : n < 2147483648) (h : ∀ b, o = some b → b < n) : (enc o < 0) = (o = none) := by
  cases o with
  | none => simp only [enc]; decide
  | some b =>
    have := h b rfl
    simp only [enc]
    rw [pneg (by omega)]
    simp
theorem bst_s_none {ok : Nat → Bool} {lt : Nat → Nat → Bool} {n : Nat} (h : bst ok lt n = none) : bst ok lt (n + 1) = if ok n = true then some n else none := by rw [bst, h]
theorem bst_s_some {ok : Nat → Bool} {lt : Nat → Nat → Bool} {n b : Nat} (h : bst ok lt n = some b) : bst ok lt (n + 1) = if (ok n && lt n b) = true then some n else some b := by rw [bst, h]
def lp (r : Nat → Int32) (l n : Nat) : Option Nat := bst (cpay r l) (fun g b => decide (wth r (nat (r (34 + 4 * l + 1))) g < wth r (nat (r (34 + 4 * l + 1))) b)) n
theorem M_leastPayment {k l G P L : Nat} {σ : nS} (h : WF (σ k) G P L) (hl : l < L) : fX6_leastPayment k (nI l) σ = some (enc (lp (σ k) l G)) := by
  have h0 := h
  obtain ⟨hG, hP, hL, e0, -, -, hg', hp', hl', -⟩ := h
  obtain ⟨h1, h2, h3, h4⟩ := hl' l hl
  obtain ⟨d, hd, ed⟩ := pof h2 (by omega)
  have en : nat (σ k (34 + 4 * l + 1)) = d := by rw [ed, nat_nI (by omega)]
  simp (disch := omega) only [fX6_leastPayment, pnl, pb, pb2, p43, p344, p28, p66, pa0, pinc, pa2, pa3, pk0, pk1, pk2, pk3, tc0, tc1, tc2, tc3, pnin, pc0, if_pos, if_true, fX6_ofG, fX6_ofL, ed]
  have key := ploop (fun n i => fX6_leastPayment_b15 n k (nI l) (enc (lp (σ k) l i)) (nI d) (nI i) σ) (some (enc (lp (σ k) l G))) G
    (fun n => by
      simp (disch := omega) only [fX6_leastPayment_b15, pnl, pb, pb2, p43, p344, p28, p66, pa0, pinc, pa2, pa3, pk0, pk1, pk2, pk3, tc0, tc1, tc2, tc3, pnin, pc0, if_pos, if_true, fX6_ofG, fX6_ofL, e0, ple]
      )
    (fun n i hi => by
      simp (disch := omega) only [fX6_leastPayment_b15, pnl, pb, pb2, p43, p344, p28, p66, pa0, pinc, pa2, pa3, pk0, pk1, pk2, pk3, tc0, tc1, tc2, tc3, pnin, pc0, if_pos, if_true, fX6_ofG, fX6_ofL, e0, ple, if_neg, M_canPayIn h0 hl hi, bi0]
      have hlt : ∀ b, lp (σ k) l i = some b → b < i ∧ cpay (σ k) l b = true := bst_ok _ _ i
      simp only [enc_neg _ (n := i) (by omega) (fun b hb => (hlt b hb).1)]
      cases e : lp (σ k) l i with
      | none =>
        have e2 : lp (σ k) l (i + 1) = _ := bst_s_none e
        rw [e2]
        cases cpay (σ k) l i <;> simp [enc]
      | some b =>
        have e2 : lp (σ k) l (i + 1) = _ := bst_s_some e
        rw [e2]
        have hb := (hlt b e).1
        simp (disch := omega) only [enc, M_worthIn (show d < 6 by omega) (show i < 8 by omega), M_worthIn (show d < 6 by omega) (show b < 8 by omega), pb, en]
        cases cpay (σ k) l i with
        | false => simp [enc]
        | true =>
          by_cases c : wth (σ k) d i < wth (σ k) d b
          · simp [c, Int32.not_le.mpr c, enc]
          · simp [c, Int32.not_lt.mp c, enc])
  exact key 4096 0 (by omega) (by omega)
