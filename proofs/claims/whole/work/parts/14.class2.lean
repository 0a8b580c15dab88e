/-! PURE 5: weeks of the class; what all have; quarrels; a town becomes another one -/
theorem cUs {σ : nS} {k : Nat} {f : Nat → Int32} : nU σ k f k = f := nU_s σ k f
/-- the bits of open loans, one less -/
theorem opn_clr {r : Nat → Int32} {L l g : Nat} (hL : L ≤ 8) (hl : l < L) (hg : g < 8) : nI (bset (opn r) L) &&& (((1 : Int32) <<< (nI l &&& 31)) ^^^ (-1 : Int32)) = nI (bset (opn (pay r l g)) L) := by
  have h1 := bset_lt (opn r) L
  have h2 : 2 ^ L ≤ 2 ^ 8 := Nat.pow_le_pow_right (by omega) hL
  rw [pclr _ (by omega) l (by omega)]
  congr 1
  apply bset_ext
  intro i
  rw [Nat.testBit_and, bset_bit]
  by_cases hi : i < L
  · have e8 : (255 ^^^ 2 ^ l).testBit i = (decide (i < 8) ^^ decide (l = i)) := by
      rw [Nat.testBit_xor, Nat.testBit_two_pow, show (255 : Nat) = 2 ^ 8 - 1 by rfl, Nat.testBit_two_pow_sub_one]
    rw [e8]
    by_cases e : l = i
    · subst e
      have : opn (pay r l g) l = false := by rw [opn, pay_z]; decide
      simp [this, show l < 8 by omega]
    · have : opn (pay r l g) i = opn r i := by
        rw [opn, opn]
        congr 2
        rw [pay_n (by omega) (by omega)]
      simp [this, hi, e, show i < 8 by omega]
  · simp [hi]
theorem C_settle {σ : nS} {k : Nat} {r : Nat → Int32} {G P L l g : Nat} (h : CT σ k r G P L) (w : WF r G P L) (hl : l < L) (hg : g < G) : ∃ τ, fX4_settle k (nI l) (nI g) σ = some ((), τ) ∧ CT τ k (pay r l g) G P L ∧ ∀ j, (j < k ∨ k + 8 < j) → τ j = σ j := by
  have hG := w.1
  have hP := w.2.1
  have hL := w.2.2.1
  obtain ⟨c0, c1, c2, c3, c4, c5, c6, c7, c8⟩ := h
  simp (disch := omega) only [fX4_settle, pnl, pb, pb2, pinc, pnin, pc0, if_pos, if_true, (c7 l hl).1]
  rw [nU_n (j := k) _ _ (by omega), c3, opn_clr hL hl (show g < 8 by omega)]
  refine ⟨_, rfl, ⟨?_, ?_, ?_, ?_, ?_, fun g' h' => ?_, fun q hq => ?_, fun l' h' => ?_, fun j hj => ?_⟩, fun j hj => ?_⟩
  · rw [nU_s, upd_n _ _ (by omega)]; exact c0
  · rw [nU_s, upd_n _ _ (by omega)]; exact c1
  · rw [nU_s, upd_n _ _ (by omega)]; exact c2
  · rw [nU_s, upd_s]
  · rw [nU_s, upd_n _ _ (by omega), pay_n (by omega) (by omega)]; exact c4
  · obtain ⟨b1, b2, b3⟩ := c5 g' h'
    rw [nU_n _ _ (by omega), nU_n _ _ (by omega), nU_n _ _ (by omega), nU_n _ _ (by omega), nU_n _ _ (by omega), nU_s, pay_n (by omega) (by omega), pay_n (by omega) (by omega)]
    refine ⟨b1, b2, ?_⟩
    by_cases e : g' = g
    · subst e; rw [upd_s, pay_o (by omega)]
    · rw [upd_n _ _ e, pay_n (by omega) (by omega)]; exact b3
  · rw [nU_n _ _ (by omega), nU_n _ _ (by omega), pay_n (by omega) (by omega)]; exact c6 q hq
  · obtain ⟨b1, b2, b3⟩ := c7 l' h'
    rw [nU_n _ _ (by omega), nU_n _ _ (by omega), nU_n _ _ (by omega), nU_n _ _ (by omega), nU_n _ _ (by omega), nU_n _ _ (by omega), pay_n (by omega) (by omega), pay_n (by omega) (by omega), pay_n (by omega) (by omega)]
    exact ⟨b1, b2, b3⟩
  · rw [nU_n _ _ (by omega), nU_n _ _ (by omega), pay_n (by omega) (by omega)]; exact c8 j hj
  · rw [nU_n _ _ (by omega), nU_n _ _ (by omega)]
/-- what stays: all but a town's cells -/
def Fr (k : Nat) (σ τ : nS) : Prop := ∀ j, (j < k ∨ k + 8 < j) → τ j = σ j
theorem Fr.rf {k : Nat} {σ : nS} : Fr k σ σ := fun _ _ => rfl
theorem Fr.tr {k : Nat} {σ τ υ : nS} (h1 : Fr k σ τ) (h2 : Fr k τ υ) : Fr k σ υ := fun j hj => (h2 j hj).trans (h1 j hj)
/-- loops that change the contents -/
theorem ploopS {α : Type} (L : Nat → Nat → nS → Option α) (I : Nat → nS → Prop) (P : Option α → Prop) (e : Nat) (hend : ∀ n σ, I e σ → P (L (n + 1) e σ)) (hstep : ∀ n i σ, i < e → I i σ → (∀ τ, I (i + 1) τ → P (L n (i + 1) τ)) → P (L (n + 1) i σ)) : ∀ n i σ, i ≤ e → e < n + i → I i σ → P (L n i σ) := by
  intro n
  induction n with
  | zero => intro i σ h1 h2; omega
  | succ n ih =>
    intro i σ h1 h2 hI
    rcases Nat.lt_or_ge i e with h | h
    · exact hstep n i σ h hI (fun τ hτ => ih (i + 1) τ h (by omega) hτ)
    · obtain rfl : i = e := by omega
      exact hend n σ hI
theorem C_passWeek {σ : nS} {k : Nat} {r : Nat → Int32} {G P L wk : Nat} (h : CT σ k r G P L) (w : WF r G P L) (hw : wk + 1 < 2147483648) (e : r 3 = nI wk) : ∃ τ, fX4_passWeek k σ = some ((), τ) ∧ CT τ k (weekR r G L) G P L ∧ Fr k σ τ := by
  have hG := w.1
  have hL := w.2.2.1
  have w1 := WF_upd3 (r 3 + 1) w
  have e9 : weekR r G L = wkl (upd r 3 (r 3 + 1)) G L := rfl
  rw [e9]
  have c0 : CT (nU σ k (upd (σ k) 12 (σ k 12 + 1))) k (upd r 3 (r 3 + 1)) G P L := by
    obtain ⟨c0, c1, c2, c3, c4, c5, c6, c7, c8⟩ := h
    have eo : opn (upd r 3 (r 3 + 1)) = opn r := by funext l; rw [opn, opn, upd_n _ _ (by omega)]
    refine ⟨?_, ?_, ?_, ?_, ?_, fun g' h' => ?_, fun q hq => ?_, fun l' h' => ?_, fun j hj => ?_⟩
    · rw [nU_s, upd_n _ _ (by omega)]; exact c0
    · rw [nU_s, upd_n _ _ (by omega)]; exact c1
    · rw [nU_s, upd_n _ _ (by omega)]; exact c2
    · rw [nU_s, upd_n _ _ (by omega), eo]; exact c3
    · rw [nU_s, upd_s, upd_s, c4]
    · rw [nU_n _ _ (by omega), nU_n _ _ (by omega), nU_n _ _ (by omega), upd_n _ _ (by omega), upd_n _ _ (by omega), upd_n _ _ (by omega)]; exact c5 g' h'
    · rw [nU_n _ _ (by omega), upd_n _ _ (by omega)]; exact c6 q hq
    · rw [nU_n _ _ (by omega), nU_n _ _ (by omega), nU_n _ _ (by omega), upd_n _ _ (by omega), upd_n _ _ (by omega), upd_n _ _ (by omega)]; exact c7 l' h'
    · rw [nU_n _ _ (by omega), upd_n _ _ (by omega)]; exact c8 j hj
  have f0 : Fr k σ (nU σ k (upd (σ k) 12 (σ k 12 + 1))) := fun j hj => nU_n _ _ (by omega)
  rw [fX4_passWeek, pnl]
  generalize nU σ k (upd (σ k) 12 (σ k 12 + 1)) = σ0 at c0 f0
  have e3 : ∀ i, wkl (upd r 3 (r 3 + 1)) G i 3 = nI (wk + 1) := fun i => by rw [wkl_3 hG, upd_s, e, pinc]
  generalize upd r 3 (r 3 + 1) = r1 at w1 c0 e3
  have key := ploopS (fun n i τ => fX4_passWeek_b12 n k (nI i) τ) (fun i τ => CT τ k (wkl r1 G i) G P L ∧ Fr k σ τ) (fun o => ∃ τ, o = some ((), τ) ∧ CT τ k (wkl r1 G L) G P L ∧ Fr k σ τ) L
    (fun n τ hI => by
      have c9 := hI.1.2.2.1
      simp (disch := omega) only [fX4_passWeek_b12, pnl, pb, pb2, pinc, pnin, pc0, if_pos, if_true, c9, ple]
      exact ⟨τ, rfl, hI⟩)
    (fun n i τ hi hI hk => by
      obtain ⟨hc, hf⟩ := hI
      have wi := WF_wkl w1 i (by omega)
      have c9 := hc.2.2.1
      obtain ⟨b1, b2, b3⟩ := hc.2.2.2.2.2.2.2.1 i hi
      obtain ⟨d, hd, ed⟩ := pof (wi.2.2.2.2.2.2.2.2.1 i hi).2.1 (by have := w.2.1; omega)
      simp (disch := omega) only [fX4_passWeek_b12, pnl, pb, pb2, pinc, pnin, pc0, if_pos, if_true, c9, ple, if_neg, C_payers hc wi hi, b2, ed, C_least hc wi hd hw (e3 i)]
      have el : bst (cpay (wkl r1 G i) i) (fun g b => decide (wth (wkl r1 G i) d g < wth (wkl r1 G i) d b)) G = lp (wkl r1 G i) i G := by
        rw [lp, ed, nat_nI (by have := w.2.1; omega)]
      rw [el]
      simp only [enc_neg _ (n := G) (by omega) (fun b hb => (lp_ok hb).1)]
      have es : wkl r1 G (i + 1) = wstep (wkl r1 G i) i G := rfl
      rw [es, wstep] at hk
      cases e : lp (wkl r1 G i) i G with
      | none =>
        rw [e] at hk
        rw [if_pos rfl]
        exact hk τ ⟨hc, hf⟩
      | some g =>
        rw [e] at hk
        rw [if_neg (by simp)]
        obtain ⟨υ, h1, h2, h3⟩ := C_settle hc wi hi (lp_ok e).1
        simp only [enc]
        rw [h1, pb2]
        exact hk υ ⟨h2, hf.tr h3⟩)
  exact key 4096 0 σ0 (by omega) (by omega) ⟨c0, f0⟩
theorem C_passWeeks {σ : nS} {k : Nat} {r : Nat → Int32} {G P L wk m : Nat} (h : CT σ k r G P L) (w : WF r G P L) (hw : wk < 1000) (hm : m < 1000) (e : r 3 = nI wk) : ∃ τ, fX4_passWeeks_b30 4096 k (nI m) (nI 0) σ = some (cnt (bset (opn (wksR r G L m)) L), τ) ∧ CT τ k (wksR r G L m) G P L ∧ Fr k σ τ := by
  refine ploopS (fun n i τ => fX4_passWeeks_b30 n k (nI m) (nI i) τ) (fun i τ => CT τ k (wksR r G L i) G P L ∧ Fr k σ τ) (fun o => ∃ τ, o = some (cnt (bset (opn (wksR r G L m)) L), τ) ∧ CT τ k (wksR r G L m) G P L ∧ Fr k σ τ) m
    (fun n τ hI => ?_) (fun n i τ hi hI hk => ?_) 4096 0 σ (by omega) (by omega) ⟨h, Fr.rf⟩
  · have c9 := hI.1.2.2.2.1
    simp (disch := omega) only [fX4_passWeeks_b30, pnl, pb, pb2, pinc, pnin, pc0, if_pos, if_true, c9, ple, pcntJ]
    exact ⟨τ, rfl, hI⟩
  · obtain ⟨υ, h1, h2, h3⟩ := C_passWeek hI.1 (WF_wksR w i) (by omega) (wksR_3 w.1 e i)
    simp (disch := omega) only [fX4_passWeeks_b30, ple, if_neg, h1, pnl, pb, pb2, pinc, pnin, pc0, if_pos, if_true]
    exact hk υ ⟨h2, hI.2.tr h3⟩
theorem C_wealth {σ : nS} {k : Nat} {r : Nat → Int32} {G P L q : Nat} (h : CT σ k r G P L) (w : WF r G P L) (hq : q < P) : fX4_wealth k (nI q) σ = some (rch r q G) := by
  have hc := h
  obtain ⟨c0, c1, c2, c3, c4, c5, c6, c7, c8⟩ := h
  have hG := w.1
  rw [fX4_wealth]
  exact ploop (fun n i => fX4_wealth_b4 n k (nI q) (rch r q i) (nI i) σ) (some (rch r q G)) G
    (fun n => by simp (disch := omega) only [fX4_wealth_b4, pnl, pb, pb2, pinc, pnin, pc0, if_pos, if_true, c0, ple])
    (fun n i hi => by
      simp (disch := omega) only [fX4_wealth_b4, pnl, pb, pb2, pinc, pnin, pc0, if_pos, if_true, c0, ple, if_neg, (c5 i hi).2.2, C_worthTo hc w hq hi, rch]
      by_cases e : r (4 + 3 * i + 2) = nI q
      · rw [if_pos e, if_pos (by simp [ownd, e])]
      · rw [if_neg e, if_neg (by simp [ownd, e])])
    4096 0 (by omega) (by omega)
theorem C_allWealth {σ : nS} {k : Nat} {r : Nat → Int32} {G P L : Nat} (h : CT σ k r G P L) (w : WF r G P L) : fX4_allWealth k σ = some (rchA r G P) := by
  have hP := w.2.1
  have c1 := h.2.1
  rw [fX4_allWealth]
  exact ploop (fun n i => fX4_allWealth_b4 n k (rchA r G i) (nI i) σ) (some (rchA r G P)) P
    (fun n => by simp (disch := omega) only [fX4_allWealth_b4, pnl, pb, pb2, pinc, pnin, pc0, if_pos, if_true, c1, ple])
    (fun n i hi => by
      simp (disch := omega) only [fX4_allWealth_b4, pnl, pb, pb2, pinc, pnin, pc0, if_pos, if_true, c1, ple, if_neg, C_wealth h w hi, rchA])
    4096 0 (by omega) (by omega)
