/-! PURE 3: the reference on a row -/
theorem por0 (a : Nat) : nI a ||| (0 : Int32) = nI a := by rw [pl0, por, Nat.or_zero]
theorem pshl0 : ∀ i, i < 31 → ((0 : Int32) <<< (nI i &&& 31)) = 0 := by decide +kernel
def pay (r : Nat → Int32) (l g : Nat) : Nat → Int32 := upd (upd r (4 + 3 * g + 2) (r (34 + 4 * l))) (34 + 4 * l + 3) 0
theorem M_paysIn {k l g : Nat} {σ : nS} (hl : l < 8) (hg : g < 8) : fX6_paysIn k (nI l) (nI g) σ = some ((), nU σ k (pay (σ k) l g)) := by
  simp (disch := omega) only [fX6_paysIn, pnl, pb, pb2, p43, p344, p28, p66, pa0, pinc, pa2, pa3, pk0, pk1, pk2, pk3, tc0, tc1, tc2, tc3, pnin, pc0, if_pos, if_true, fX6_ofG, fX6_ofL, nU_s, nUU]
  rfl
theorem pay_n {r : Nat → Int32} {l g j : Nat} (h1 : j ≠ 4 + 3 * g + 2) (h2 : j ≠ 34 + 4 * l + 3) : pay r l g j = r j := by
  rw [pay, upd_n _ _ h2, upd_n _ _ h1]
theorem pay_o {r : Nat → Int32} {l g : Nat} (hg : g < 8) : pay r l g (4 + 3 * g + 2) = r (34 + 4 * l) := by
  rw [pay, upd_n _ _ (by omega), upd_s]
theorem pay_z {r : Nat → Int32} {l g : Nat} : pay r l g (34 + 4 * l + 3) = 0 := by rw [pay, upd_s]
theorem WF_pay {r : Nat → Int32} {G P L l g : Nat} (h : WF r G P L) (hl : l < L) (hg : g < G) : WF (pay r l g) G P L := by
  obtain ⟨hG, hP, hL, e0, e1, e2, hg', hp', hl', hc⟩ := h
  refine ⟨hG, hP, hL, ?_, ?_, ?_, fun g' h' => ⟨?_, ?_, ?_⟩, fun q hq => ?_, fun l' h' => ⟨?_, ?_, ?_, ?_⟩, fun j hj => ?_⟩
  · rw [pay_n (by omega) (by omega)]; exact e0
  · rw [pay_n (by omega) (by omega)]; exact e1
  · rw [pay_n (by omega) (by omega)]; exact e2
  · rw [pay_n (by omega) (by omega)]; exact (hg' g' h').1
  · rw [pay_n (by omega) (by omega)]; exact (hg' g' h').2.1
  · by_cases e : g' = g
    · subst e; rw [pay_o (by omega)]; exact (hl' l hl).1
    · rw [pay_n (by omega) (by omega)]; exact (hg' g' h').2.2
  · rw [pay_n (by omega) (by omega)]; exact hp' q hq
  · rw [pay_n (by omega) (by omega)]; exact (hl' l' h').1
  · rw [pay_n (by omega) (by omega)]; exact (hl' l' h').2.1
  · rw [pay_n (by omega) (by omega)]; exact (hl' l' h').2.2.1
  · by_cases e : l' = l
    · subst e; rw [pay_z]; exact Or.inl rfl
    · rw [pay_n (by omega) (by omega)]; exact (hl' l' h').2.2.2
  · rw [pay_n (by omega) (by omega)]; exact hc j hj
/-- one loan of a week -/
def wstep (r : Nat → Int32) (l G : Nat) : Nat → Int32 := match lp r l G with | none => r | some g => pay r l g
def wkl (r : Nat → Int32) (G : Nat) : Nat → (Nat → Int32)
  | 0 => r
  | l + 1 => wstep (wkl r G l) l G
def weekR (r : Nat → Int32) (G L : Nat) : Nat → Int32 := wkl (upd r 3 (r 3 + 1)) G L
theorem lp_ok {r : Nat → Int32} {l n b : Nat} (h : lp r l n = some b) : b < n ∧ cpay r l b = true := bst_ok _ _ n b h
theorem WF_wstep {r : Nat → Int32} {G P L l : Nat} (h : WF r G P L) (hl : l < L) : WF (wstep r l G) G P L := by
  rw [wstep]
  cases e : lp r l G with
  | none => exact h
  | some g => exact WF_pay h hl (lp_ok e).1
theorem WF_wkl {r : Nat → Int32} {G P L : Nat} (h : WF r G P L) : ∀ i, i ≤ L → WF (wkl r G i) G P L := by
  intro i
  induction i with
  | zero => intro _; exact h
  | succ i ih => intro hi; exact WF_wstep (ih (by omega)) (by omega)
theorem WF_upd3 {r : Nat → Int32} {G P L : Nat} (x : Int32) (h : WF r G P L) : WF (upd r 3 x) G P L := by
  obtain ⟨hG, hP, hL, e0, e1, e2, hg', hp', hl', hc⟩ := h
  refine ⟨hG, hP, hL, ?_, ?_, ?_, fun g' h' => ?_, fun q hq => ?_, fun l' h' => ?_, fun j hj => ?_⟩
  · rw [upd_n _ _ (by omega)]; exact e0
  · rw [upd_n _ _ (by omega)]; exact e1
  · rw [upd_n _ _ (by omega)]; exact e2
  · rw [upd_n _ _ (by omega), upd_n _ _ (by omega), upd_n _ _ (by omega)]; exact hg' g' h'
  · rw [upd_n _ _ (by omega)]; exact hp' q hq
  · rw [upd_n _ _ (by omega), upd_n _ _ (by omega), upd_n _ _ (by omega), upd_n _ _ (by omega)]; exact hl' l' h'
  · rw [upd_n _ _ (by omega)]; exact hc j hj
theorem WF_weekR {r : Nat → Int32} {G P L : Nat} (h : WF r G P L) : WF (weekR r G L) G P L := WF_wkl (WF_upd3 _ h) L (Nat.le_refl L)
theorem wkl_3 {r : Nat → Int32} {G : Nat} (hG : G ≤ 8) : ∀ i, wkl r G i 3 = r 3 := by
  intro i
  induction i with
  | zero => rfl
  | succ i ih =>
    rw [wkl, wstep]
    cases e : lp (wkl r G i) i G with
    | none => exact ih
    | some g => simp only; rw [pay_n (by omega) (by omega)]; exact ih
theorem weekR_3 {r : Nat → Int32} {G L : Nat} (hG : G ≤ 8) : weekR r G L 3 = r 3 + 1 := by rw [weekR, wkl_3 hG, upd_s]
theorem M_week {k G P L : Nat} {σ : nS} (h : WF (σ k) G P L) : fX6_week k σ = some ((), nU σ k (weekR (σ k) G L)) := by
  have h1 := WF_upd3 (σ k 3 + 1) h
  simp (disch := omega) only [fX6_week, pnl, pb, pb2, p43, p344, p28, p66, pa0, pinc, pa2, pa3, pk0, pk1, pk2, pk3, tc0, tc1, tc2, tc3, pnin, pc0, if_pos, if_true, fX6_ofG, fX6_ofL]
  generalize hr : upd (σ k) 3 (σ k 3 + 1) = r at h1
  have hL : L ≤ 8 := h.2.2.1
  have hG : G ≤ 8 := h.1
  have e9 : weekR (σ k) G L = wkl r G L := by rw [weekR, hr]
  rw [e9]
  have key := ploop (fun n i => fX6_week_b9 n k (nI i) (nU σ k (wkl r G i))) (some ((), nU σ k (wkl r G L))) L
    (fun n => by
      have e2 : wkl r G L 2 = nI L := (WF_wkl h1 L (Nat.le_refl L)).2.2.2.2.2.1
      simp (disch := omega) only [fX6_week_b9, pnl, pb, pb2, p43, p344, p28, p66, pa0, pinc, pa2, pa3, pk0, pk1, pk2, pk3, tc0, tc1, tc2, tc3, pnin, pc0, if_pos, if_true, fX6_ofG, fX6_ofL, nU_s, e2, ple])
    (fun n i hi => by
      have hw := WF_wkl h1 i (by omega)
      have e2 : wkl r G i 2 = nI L := hw.2.2.2.2.2.1
      have hw2 : WF ((nU σ k (wkl r G i)) k) G P L := by rw [nU_s]; exact hw
      simp (disch := omega) only [fX6_week_b9, pnl, pb, pb2, p43, p344, p28, p66, pa0, pinc, pa2, pa3, pk0, pk1, pk2, pk3, tc0, tc1, tc2, tc3, pnin, pc0, if_pos, if_true, fX6_ofG, fX6_ofL, nU_s, e2, ple, if_neg]
      rw [M_leastPayment hw2 hi, pb, nU_s]
      simp only [enc_neg _ (n := G) (by omega) (fun b hb => (lp_ok hb).1), wkl, wstep]
      cases e : lp (wkl r G i) i G with
      | none => simp
      | some g =>
        have hg := (lp_ok e).1
        simp (disch := omega) only [enc, M_paysIn, pb2, nU_s, nUU, if_neg, reduceCtorEq, if_false])
  exact key 4096 0 (by omega) (by omega)
def wksR (r : Nat → Int32) (G L : Nat) : Nat → (Nat → Int32)
  | 0 => r
  | n + 1 => weekR (wksR r G L n) G L
theorem WF_wksR {r : Nat → Int32} {G P L : Nat} (h : WF r G P L) : ∀ n, WF (wksR r G L n) G P L := by
  intro n
  induction n with
  | zero => exact h
  | succ n ih => exact WF_weekR ih
theorem wksR_3 {r : Nat → Int32} {G L w : Nat} (hG : G ≤ 8) (h : r 3 = nI w) : ∀ n, wksR r G L n 3 = nI (w + n) := by
  intro n
  induction n with
  | zero => exact h
  | succ n ih => rw [wksR, weekR_3 hG, ih, pinc]; rfl
theorem M_weeksOn {k G P L m : Nat} {σ : nS} (h : WF (σ k) G P L) (hm : m < 1000) : fX6_weeksOn k (nI m) σ = some ((), nU σ k (wksR (σ k) G L m)) := by
  rw [fX6_weeksOn]
  have key := ploop (fun n i => fX6_weeksOn_b2 n k (nI m) (nI i) (nU σ k (wksR (σ k) G L i))) (some ((), nU σ k (wksR (σ k) G L m))) m
    (fun n => by simp (disch := omega) only [fX6_weeksOn_b2, pnl, pb, pb2, p43, p344, p28, p66, pa0, pinc, pa2, pa3, pk0, pk1, pk2, pk3, tc0, tc1, tc2, tc3, pnin, pc0, if_pos, if_true, fX6_ofG, fX6_ofL, ple])
    (fun n i hi => by
      have hw2 : WF ((nU σ k (wksR (σ k) G L i)) k) G P L := by rw [nU_s]; exact WF_wksR h i
      simp (disch := omega) only [fX6_weeksOn_b2, pnl, pb, pb2, p43, p344, p28, p66, pa0, pinc, pa2, pa3, pk0, pk1, pk2, pk3, tc0, tc1, tc2, tc3, pnin, pc0, if_pos, if_true, fX6_ofG, fX6_ofL, ple, if_neg]
      rw [M_week hw2]
      simp only [pnl, pb, pb2, p43, p344, p28, p66, pa0, pinc, pa2, pa3, pk0, pk1, pk2, pk3, tc0, tc1, tc2, tc3, pnin, pc0, if_pos, if_true, fX6_ofG, fX6_ofL, nU_s, nUU, wksR])
  have h9 := key 4096 0 (by omega) (by omega)
  simp only [wksR, nUid] at h9
  exact h9
def opn (r : Nat → Int32) (l : Nat) : Bool := decide (r (34 + 4 * l + 3) = 1)
theorem M_openIn {k G P L : Nat} {σ : nS} (h : WF (σ k) G P L) : fX6_openIn k σ = some (nI (bset (opn (σ k)) L)) := by
  obtain ⟨hG, hP, hL, e0, e1, e2, hg', hp', hl', hc⟩ := h
  rw [fX6_openIn]
  exact ploop (fun n i => fX6_openIn_b4 n k (nI (bset (opn (σ k)) i)) (nI i) σ) (some (nI (bset (opn (σ k)) L))) L
    (fun n => by simp (disch := omega) only [fX6_openIn_b4, pnl, pb, pb2, p43, p344, p28, p66, pa0, pinc, pa2, pa3, pk0, pk1, pk2, pk3, tc0, tc1, tc2, tc3, pnin, pc0, if_pos, if_true, fX6_ofG, fX6_ofL, e2, ple])
    (fun n i hi => by
      simp (disch := omega) only [fX6_openIn_b4, pnl, pb, pb2, p43, p344, p28, p66, pa0, pinc, pa2, pa3, pk0, pk1, pk2, pk3, tc0, tc1, tc2, tc3, pnin, pc0, if_pos, if_true, fX6_ofG, fX6_ofL, e2, ple, if_neg]
      rcases (hl' i hi).2.2.2 with e | e
      · rw [e, pshl0 i (by omega), por0, pbit0 (by simp [opn, e])]
      · rw [e, pbit (by omega) (by simp [opn, e])])
    4096 0 (by omega) (by omega)
theorem M_cntOpen {k G P L : Nat} {σ τ : nS} (h : WF (σ k) G P L) : fX6_bits (nI (bset (opn (σ k)) L)) τ = some (cnt (bset (opn (σ k)) L)) :=
  pcnt6 τ (by have h1 := bset_lt (opn (σ k)) L; have h2 : 2 ^ L ≤ 2 ^ 8 := Nat.pow_le_pow_right (by omega) h.2.2.1; omega)
theorem M_takesOf {q x G P L : Nat} {σ : nS} (h : WF (σ 64) G P L) (hq : q < P) (hx : x < G) : fX6_takesOf (nI q) (nI x) σ = some (nI (bset (would (σ 64) q x) G)) := by
  obtain ⟨hG, hP, hL, e0, e1, e2, hg', hp', hl', hc⟩ := h
  rw [fX6_takesOf]
  exact ploop (fun n i => fX6_takesOf_b5 n (nI q) (nI x) (nI (bset (would (σ 64) q x) i)) (nI i) σ) (some (nI (bset (would (σ 64) q x) G))) G
    (fun n => by simp (disch := omega) only [fX6_takesOf_b5, pnl, pb, pb2, p43, p344, p28, p66, pa0, pinc, pa2, pa3, pk0, pk1, pk2, pk3, tc0, tc1, tc2, tc3, pnin, pc0, if_pos, if_true, fX6_ofG, fX6_ofL, e0, ple])
    (fun n i hi => by
      simp (disch := omega) only [fX6_takesOf_b5, pnl, pb, pb2, p43, p344, p28, p66, pa0, pinc, pa2, pa3, pk0, pk1, pk2, pk3, tc0, tc1, tc2, tc3, pnin, pc0, if_pos, if_true, fX6_ofG, fX6_ofL, e0, ple, if_neg, M_wouldIn (show q < 6 by omega) (show x < 8 by omega) (show i < 8 by omega) (hg' x hx).1 (hg' i hi).1, bi0, por0]
      cases e : would (σ 64) q x i with
      | false => simp [pbit0 (f := would (σ 64) q x) (n := i) (by simp [e])]
      | true => simp [pbit (f := would (σ 64) q x) (n := i) (by omega) e])
    4096 0 (by omega) (by omega)
def ownd (r : Nat → Int32) (q g : Nat) : Bool := decide (r (4 + 3 * g + 2) = nI q)
theorem M_ownedBy {k q G P L : Nat} {σ : nS} (h : WF (σ k) G P L) : fX6_ownedBy k (nI q) σ = some (nI (bset (ownd (σ k) q) G)) := by
  obtain ⟨hG, hP, hL, e0, e1, e2, hg', hp', hl', hc⟩ := h
  rw [fX6_ownedBy]
  exact ploop (fun n i => fX6_ownedBy_b4 n k (nI q) (nI (bset (ownd (σ k) q) i)) (nI i) σ) (some (nI (bset (ownd (σ k) q) G))) G
    (fun n => by simp (disch := omega) only [fX6_ownedBy_b4, pnl, pb, pb2, p43, p344, p28, p66, pa0, pinc, pa2, pa3, pk0, pk1, pk2, pk3, tc0, tc1, tc2, tc3, pnin, pc0, if_pos, if_true, fX6_ofG, fX6_ofL, e0, ple])
    (fun n i hi => by
      simp (disch := omega) only [fX6_ownedBy_b4, pnl, pb, pb2, p43, p344, p28, p66, pa0, pinc, pa2, pa3, pk0, pk1, pk2, pk3, tc0, tc1, tc2, tc3, pnin, pc0, if_pos, if_true, fX6_ofG, fX6_ofL, e0, ple, if_neg, por0]
      by_cases e : σ k (4 + 3 * i + 2) = nI q
      · rw [if_pos e, pbit (f := ownd (σ k) q) (by omega) (by simp [ownd, e])]
      · rw [if_neg e, pbit0 (f := ownd (σ k) q) (by simp [ownd, e])])
    4096 0 (by omega) (by omega)
def rch (r : Nat → Int32) (q : Nat) : Nat → Int32
  | 0 => 0
  | g + 1 => if ownd r q g = true then rch r q g + wth r q g else rch r q g
theorem M_richesOf {k q G P L : Nat} {σ : nS} (h : WF (σ k) G P L) (hq : q < P) : fX6_richesOf k (nI q) σ = some (rch (σ k) q G) := by
  obtain ⟨hG, hP, hL, e0, e1, e2, hg', hp', hl', hc⟩ := h
  rw [fX6_richesOf]
  exact ploop (fun n i => fX6_richesOf_b4 n k (nI q) (rch (σ k) q i) (nI i) σ) (some (rch (σ k) q G)) G
    (fun n => by simp (disch := omega) only [fX6_richesOf_b4, pnl, pb, pb2, p43, p344, p28, p66, pa0, pinc, pa2, pa3, pk0, pk1, pk2, pk3, tc0, tc1, tc2, tc3, pnin, pc0, if_pos, if_true, fX6_ofG, fX6_ofL, e0, ple])
    (fun n i hi => by
      simp (disch := omega) only [fX6_richesOf_b4, pnl, pb, pb2, p43, p344, p28, p66, pa0, pinc, pa2, pa3, pk0, pk1, pk2, pk3, tc0, tc1, tc2, tc3, pnin, pc0, if_pos, if_true, fX6_ofG, fX6_ofL, e0, ple, if_neg, M_worthIn, Int32.add_zero, rch]
      by_cases e : σ k (4 + 3 * i + 2) = nI q
      · rw [if_pos e, if_pos (by simp [ownd, e])]
      · rw [if_neg e, if_neg (by simp [ownd, e])])
    4096 0 (by omega) (by omega)
def rchA (r : Nat → Int32) (G : Nat) : Nat → Int32
  | 0 => 0
  | q + 1 => rchA r G q + rch r q G
theorem M_richesAll {k G P L : Nat} {σ : nS} (h : WF (σ k) G P L) : fX6_richesAll k σ = some (rchA (σ k) G P) := by
  have h0 := h
  obtain ⟨hG, hP, hL, e0, e1, e2, hg', hp', hl', hc⟩ := h
  rw [fX6_richesAll]
  exact ploop (fun n i => fX6_richesAll_b4 n k (rchA (σ k) G i) (nI i) σ) (some (rchA (σ k) G P)) P
    (fun n => by simp (disch := omega) only [fX6_richesAll_b4, pnl, pb, pb2, p43, p344, p28, p66, pa0, pinc, pa2, pa3, pk0, pk1, pk2, pk3, tc0, tc1, tc2, tc3, pnin, pc0, if_pos, if_true, fX6_ofG, fX6_ofL, e1, ple])
    (fun n i hi => by
      simp (disch := omega) only [fX6_richesAll_b4, pnl, pb, pb2, p43, p344, p28, p66, pa0, pinc, pa2, pa3, pk0, pk1, pk2, pk3, tc0, tc1, tc2, tc3, pnin, pc0, if_pos, if_true, fX6_ofG, fX6_ofL, e1, ple, if_neg, M_richesOf h0 hi, rchA])
    4096 0 (by omega) (by omega)
