/-! PURE 9: one more of a town, on both sides -/
theorem pdec {a : Nat} : nI (a + 1) - (1 : Int32) = nI a := psub1 (by omega)
theorem nin_mono {x : Int32} {n m : Nat} (h : nin x n) (hm : n ≤ m) : nin x m := ⟨h.1, by have := h.2; omega⟩
def addP (r : Nat → Int32) (P : Nat) (x : Int32) : Nat → Int32 := upd (upd r (28 + P) x) 1 (nI (P + 1))
theorem WF_addP {r : Nat → Int32} {G P L : Nat} {x : Int32} (h : WF r G P L) (hP6 : P < 6) (hx : nin x 10) : WF (addP r P x) G (P + 1) L := by
  obtain ⟨hG, hP, hL, e0, e1, e2, hg', hp', hl', hc⟩ := h
  unfold addP
  refine ⟨hG, hP6, hL, ?_, ?_, ?_, fun g h => ⟨?_, ?_, ?_⟩, fun q h => ?_, fun l h => ⟨?_, ?_, ?_, ?_⟩, fun j h => ?_⟩
  · simp (disch := omega) only [upd_n]; exact e0
  · rw [upd_s]
  · simp (disch := omega) only [upd_n]; exact e2
  · simp (disch := omega) only [upd_n]; exact (hg' g h).1
  · simp (disch := omega) only [upd_n]; exact (hg' g h).2.1
  · simp (disch := omega) only [upd_n]; exact nin_mono (hg' g h).2.2 (by omega)
  · by_cases e : q = P
    · subst e; rw [upd_n _ _ (by omega), upd_s]; exact hx
    · rw [upd_n _ _ (by omega), upd_n _ _ (by omega)]; exact hp' q (by omega)
  · simp (disch := omega) only [upd_n]; exact nin_mono (hl' l h).1 (by omega)
  · simp (disch := omega) only [upd_n]; exact nin_mono (hl' l h).2.1 (by omega)
  · simp (disch := omega) only [upd_n]; exact (hl' l h).2.2.1
  · simp (disch := omega) only [upd_n]; exact (hl' l h).2.2.2
  · simp (disch := omega) only [upd_n]; exact hc j h
theorem opn_upd {r : Nat → Int32} {j : Nat} {x : Int32} {L : Nat} (hj : ∀ l, l < L → 34 + 4 * l + 3 ≠ j) : bset (opn (upd r j x)) L = bset (opn r) L :=
  bset_congr (fun i hi => by rw [opn, opn, upd_n _ _ (hj i hi)])
theorem C_addPerson {σ : nS} {k : Nat} {r : Nat → Int32} {G P L : Nat} {x : Int32} (h : CT σ k r G P L) (w : WF r G P L) (hP6 : P < 6) (hx : nin x 10) : ∃ τ, fX4_addPerson k x σ = some (nI P, τ) ∧ CT τ k (addP r P x) G (P + 1) L ∧ Fr k σ τ := by
  have hG := w.1
  have hL := w.2.2.1
  obtain ⟨c0, c1, c2, c3, c4, c5, c6, c7, c8⟩ := h
  obtain ⟨a, ha, rfl⟩ := pof hx (by omega)
  simp (disch := omega) only [fX4_addPerson, pnl, pb, pb2, pinc, pnin, pc0, if_pos, if_true, c1, pneg, if_false, pl10, pl6, plt, nU_s, nU_n, upd_s, pdec]
  unfold addP
  refine ⟨_, rfl, ⟨?_, ?_, ?_, ?_, ?_, fun g h => ?_, fun q h => ?_, fun l h => ?_, fun j h => ?_⟩, fun j hj => ?_⟩
  · simp (disch := omega) only [nU_s, upd_n]; exact c0
  · simp (disch := omega) only [nU_s, upd_s]
  · simp (disch := omega) only [nU_s, upd_n]; exact c2
  · simp (disch := omega) only [nU_s, upd_n]
    rw [opn_upd (fun l hl => by omega), opn_upd (fun l hl => by omega)]; exact c3
  · simp (disch := omega) only [nU_s, upd_n]; exact c4
  · simp (disch := omega) only [nU_n, upd_n]; exact c5 g h
  · by_cases e : q = P
    · subst e; simp (disch := omega) only [nU_n, nU_s, upd_n, upd_s]
    · simp (disch := omega) only [nU_n, nU_s, upd_n]; exact c6 q (by omega)
  · simp (disch := omega) only [nU_n, upd_n]; exact c7 l h
  · simp (disch := omega) only [nU_n, upd_n]; exact c8 j h
  · simp (disch := omega) only [nU_n]
theorem M_addsPerson {σ : nS} {G P L : Nat} {x : Int32} (w : WF (σ 64) G P L) (hP6 : P < 6) : fX6_addsPerson x σ = some (1, nU σ 64 (addP (σ 64) P x)) := by
  have e1 := w.2.2.2.2.1
  simp (disch := omega) only [fX6_addsPerson, pnl, pb, pb2, p43, p344, p28, p66, pa0, pinc, pa2, pa3, pk0, pk1, pk2, pk3, tc0, tc1, tc2, tc3, pnin, pc0, if_pos, if_true, fX6_ofG, fX6_ofL, e1, pl6, peq, if_neg, nU_s, nUU, upd_n]
  rfl
theorem M_addsPerson_full {σ : nS} {G P L : Nat} {x : Int32} (w : WF (σ 64) G P L) (hP6 : ¬ P < 6) : fX6_addsPerson x σ = some (0, σ) := by
  have e1 := w.2.2.2.2.1
  have : P = 6 := by have := w.2.1; omega
  subst this
  simp (disch := omega) only [fX6_addsPerson, pnl, pb, pb2, p43, p344, p28, p66, pa0, pinc, pa2, pa3, pk0, pk1, pk2, pk3, tc0, tc1, tc2, tc3, pnin, pc0, if_pos, if_true, fX6_ofG, fX6_ofL, e1, pl6]
def addG (r : Nat → Int32) (G : Nat) (x y z : Int32) : Nat → Int32 := upd (upd (upd (upd r (4 + 3 * G) x) (4 + 3 * G + 1) y) (4 + 3 * G + 2) z) 0 (nI (G + 1))
theorem WF_addG {r : Nat → Int32} {G P L : Nat} {x y z : Int32} (h : WF r G P L) (hG8 : G < 8) (hx : nin x 8) (hy : nin y 10) (hz : nin z P) : WF (addG r G x y z) (G + 1) P L := by
  obtain ⟨hG, hP, hL, e0, e1, e2, hg', hp', hl', hc⟩ := h
  unfold addG
  refine ⟨hG8, hP, hL, ?_, ?_, ?_, fun g h => ?_, fun q h => ?_, fun l h => ⟨?_, ?_, ?_, ?_⟩, fun j h => ?_⟩
  · rw [upd_s]
  · simp (disch := omega) only [upd_n]; exact e1
  · simp (disch := omega) only [upd_n]; exact e2
  · by_cases e : g = G
    · subst e; simp (disch := omega) only [upd_n, upd_s]; exact ⟨hx, hy, hz⟩
    · simp (disch := omega) only [upd_n]; exact hg' g (by omega)
  · simp (disch := omega) only [upd_n]; exact hp' q h
  · simp (disch := omega) only [upd_n]; exact (hl' l h).1
  · simp (disch := omega) only [upd_n]; exact (hl' l h).2.1
  · simp (disch := omega) only [upd_n]; exact nin_mono (hl' l h).2.2.1 (by omega)
  · simp (disch := omega) only [upd_n]; exact (hl' l h).2.2.2
  · simp (disch := omega) only [upd_n]; exact hc j h
theorem C_addGoods {σ : nS} {k : Nat} {r : Nat → Int32} {G P L : Nat} {x y z : Int32} (h : CT σ k r G P L) (w : WF r G P L) (hG8 : G < 8) (hx : nin x 8) (hy : nin y 10) (hz : nin z P) : ∃ τ, fX4_addGoods k x y z σ = some (nI G, τ) ∧ CT τ k (addG r G x y z) (G + 1) P L ∧ Fr k σ τ := by
  have hP := w.2.1
  have hL := w.2.2.1
  have hp := C_isPerson z h.2.1 (show P ≤ 8 by omega)
  obtain ⟨c0, c1, c2, c3, c4, c5, c6, c7, c8⟩ := h
  simp (disch := omega) only [fX4_addGoods, C_isKind, C_isFigure, hp, decide_eq_true hx, decide_eq_true hy, decide_eq_true hz, bit0, if_false, pnl, pb, pb2, pinc, pnin, pc0, if_pos, if_true, c0, pl8, plt, nU_s, nU_n, upd_s, pdec]
  unfold addG
  refine ⟨_, rfl, ⟨?_, ?_, ?_, ?_, ?_, fun g h => ?_, fun q h => ?_, fun l h => ?_, fun j h => ?_⟩, fun j hj => ?_⟩
  · simp (disch := omega) only [nU_s, upd_s]
  · simp (disch := omega) only [nU_s, upd_n]; exact c1
  · simp (disch := omega) only [nU_s, upd_n]; exact c2
  · simp (disch := omega) only [nU_s, upd_n]
    rw [opn_upd (fun l hl => by omega), opn_upd (fun l hl => by omega), opn_upd (fun l hl => by omega), opn_upd (fun l hl => by omega)]; exact c3
  · simp (disch := omega) only [nU_s, upd_n]; exact c4
  · by_cases e : g = G
    · subst e; simp (disch := omega) only [nU_n, nU_s, upd_n, upd_s]; exact ⟨trivial, trivial, trivial⟩
    · simp (disch := omega) only [nU_n, nU_s, upd_n]; exact c5 g (by omega)
  · simp (disch := omega) only [nU_n, upd_n]; exact c6 q h
  · simp (disch := omega) only [nU_n, upd_n]; exact c7 l h
  · simp (disch := omega) only [nU_n, upd_n]; exact c8 j h
  · simp (disch := omega) only [nU_n]
theorem M_addsGood {σ : nS} {G P L : Nat} {x y z : Int32} (w : WF (σ 64) G P L) (hG8 : G < 8) : fX6_addsGood x y z σ = some ((), nU σ 64 (addG (σ 64) G x y z)) := by
  have e1 := w.2.2.2.1
  simp (disch := omega) only [fX6_addsGood, pnl, pb, pb2, p43, p344, p28, p66, pa0, pinc, pa2, pa3, pk0, pk1, pk2, pk3, tc0, tc1, tc2, tc3, pnin, pc0, if_pos, if_true, fX6_ofG, fX6_ofL, e1, nU_s, nUU, upd_n]
  rfl
def addL (r : Nat → Int32) (L g : Nat) (y : Int32) : Nat → Int32 := upd (upd (upd (upd (upd (upd r (34 + 4 * L) (r (4 + 3 * g + 2))) (34 + 4 * L + 1) y) (34 + 4 * L + 2) (nI g)) (34 + 4 * L + 3) 1) (4 + 3 * g + 2) y) 2 (nI (L + 1))
theorem WF_addL {r : Nat → Int32} {G P L g : Nat} {y : Int32} (h : WF r G P L) (hL8 : L < 8) (hg : g < G) (hy : nin y P) : WF (addL r L g y) G P (L + 1) := by
  obtain ⟨hG, hP, hL, e0, e1, e2, hg', hp', hl', hc⟩ := h
  unfold addL
  refine ⟨hG, hP, hL8, ?_, ?_, ?_, fun g' h => ⟨?_, ?_, ?_⟩, fun q h => ?_, fun l h => ?_, fun j h => ?_⟩
  · simp (disch := omega) only [upd_n]; exact e0
  · simp (disch := omega) only [upd_n]; exact e1
  · rw [upd_s]
  · simp (disch := omega) only [upd_n]; exact (hg' g' h).1
  · simp (disch := omega) only [upd_n]; exact (hg' g' h).2.1
  · by_cases e : g' = g
    · subst e; simp (disch := omega) only [upd_n, upd_s]; exact hy
    · simp (disch := omega) only [upd_n]; exact (hg' g' h).2.2
  · simp (disch := omega) only [upd_n]; exact hp' q h
  · by_cases e : l = L
    · subst e; simp (disch := omega) only [upd_n, upd_s]
      exact ⟨(hg' g hg).2.2, hy, pnin0 (by omega) hg, Or.inr trivial⟩
    · simp (disch := omega) only [upd_n]; exact hl' l (by omega)
  · simp (disch := omega) only [upd_n]; exact hc j h
theorem C_addLoan {σ : nS} {k : Nat} {r : Nat → Int32} {G P L g : Nat} {y : Int32} (h : CT σ k r G P L) (w : WF r G P L) (hL8 : L < 8) (hg : g < G) (hy : nin y P) (hne : ¬ r (4 + 3 * g + 2) = y) : ∃ τ, fX4_addLoan k (nI g) y σ = some (nI L, τ) ∧ CT τ k (addL r L g y) G P (L + 1) ∧ Fr k σ τ := by
  have hG := w.1
  have hP := w.2.1
  have hp := C_isPerson y h.2.1 (show P ≤ 8 by omega)
  have hng : nin (nI g) G := pnin0 (by omega) hg
  have hgg : fX4_isGoods k (nI g) σ = some (bi true) := by rw [C_isGoods (nI g) h.1 hG, decide_eq_true hng]
  obtain ⟨c0, c1, c2, c3, c4, c5, c6, c7, c8⟩ := h
  have e3 := (c5 g hg).2.2
  simp (disch := omega) only [fX4_addLoan, hp, hgg, decide_eq_true hy, bit0, if_false, pnl, pb, pb2, pinc, pnin, pc0, if_pos, if_true, e3, hne, c2, pl8, plt, nU_s, nU_n, upd_s, upd_n, pdec, c3]
  unfold addL
  have eb : nI (bset (opn r) L) ||| ((1 : Int32) <<< (nI L &&& 31)) = nI (bset (opn (addL r L g y)) (L + 1)) := by
    have e1 : bset (opn r) L = bset (opn (addL r L g y)) L := bset_congr (fun i hi => by
      unfold opn addL
      simp (disch := omega) only [upd_n])
    rw [e1, pbit (by omega)]
    unfold opn addL
    simp (disch := omega) only [upd_n, upd_s]
    decide
  unfold addL at eb
  refine ⟨_, rfl, ⟨?_, ?_, ?_, ?_, ?_, fun g' h => ?_, fun q h => ?_, fun l h => ?_, fun j h => ?_⟩, fun j hj => ?_⟩
  · simp (disch := omega) only [nU_s, nU_n, upd_n]; exact c0
  · simp (disch := omega) only [nU_s, nU_n, upd_n]; exact c1
  · simp (disch := omega) only [nU_s, upd_s]
  · simp (disch := omega) only [nU_s, nU_n, upd_n, upd_s]; exact eb
  · simp (disch := omega) only [nU_s, nU_n, upd_n]; exact c4
  · by_cases e : g' = g
    · subst e; simp (disch := omega) only [nU_n, nU_s, upd_n, upd_s]; exact ⟨(c5 g' h).1, (c5 g' h).2.1, trivial⟩
    · simp (disch := omega) only [nU_n, nU_s, upd_n]; exact c5 g' h
  · simp (disch := omega) only [nU_n, upd_n]; exact c6 q h
  · by_cases e : l = L
    · subst e; simp (disch := omega) only [nU_n, nU_s, upd_n, upd_s]; exact ⟨trivial, trivial, trivial⟩
    · simp (disch := omega) only [nU_n, nU_s, upd_n]; exact c7 l (by omega)
  · simp (disch := omega) only [nU_n, upd_n]; exact c8 j h
  · simp (disch := omega) only [nU_n]
theorem M_addsLoan {σ : nS} {G P L g : Nat} {y : Int32} (w : WF (σ 64) G P L) (hL8 : L < 8) (hg : g < G) : fX6_addsLoan (nI g) y σ = some ((), nU σ 64 (addL (σ 64) L g y)) := by
  have e1 := w.2.2.2.2.2.1
  have hG := w.1
  simp (disch := omega) only [fX6_addsLoan, pnl, pb, pb2, p43, p344, p28, p66, pa0, pinc, pa2, pa3, pk0, pk1, pk2, pk3, tc0, tc1, tc2, tc3, pnin, pc0, if_pos, if_true, fX6_ofG, fX6_ofL, e1, nU_s, nUU, upd_n]
  rfl
def lik (r : Nat → Int32) (a b : Nat) : Nat → Int32 := upd r (66 + b) (r (66 + a))
theorem WF_lik {r : Nat → Int32} {G P L a b : Nat} (h : WF r G P L) (ha : a < 8) (hb : b < 8) : WF (lik r a b) G P L := by
  obtain ⟨hG, hP, hL, e0, e1, e2, hg', hp', hl', hc⟩ := h
  unfold lik
  refine ⟨hG, hP, hL, ?_, ?_, ?_, fun g' h => ?_, fun q h => ?_, fun l h => ?_, fun j h => ?_⟩
  · simp (disch := omega) only [upd_n]; exact e0
  · simp (disch := omega) only [upd_n]; exact e1
  · simp (disch := omega) only [upd_n]; exact e2
  · simp (disch := omega) only [upd_n]; exact hg' g' h
  · simp (disch := omega) only [upd_n]; exact hp' q h
  · simp (disch := omega) only [upd_n]; exact hl' l h
  · by_cases e : j = b
    · subst e; rw [upd_s]; exact hc a ha
    · rw [upd_n _ _ (by omega)]; exact hc j h
theorem C_liken {σ : nS} {k : Nat} {r : Nat → Int32} {G P L a b : Nat} (h : CT σ k r G P L) (w : WF r G P L) (ha : a < 8) (hb : b < 8) : ∃ τ, fX4_liken k (nI a) (nI b) σ = some (r (66 + b), τ) ∧ CT τ k (lik r a b) G P L ∧ Fr k σ τ := by
  have hG := w.1
  have hP := w.2.1
  have hL := w.2.2.1
  have h1 : nin (nI a) 8 := pnin0 (by omega) ha
  have h2 : nin (nI b) 8 := pnin0 (by omega) hb
  have k1 : fX5_isKind (nI a) σ = some (bi true) := by rw [C_isKind, decide_eq_true h1]
  have k2 : fX5_isKind (nI b) σ = some (bi true) := by rw [C_isKind, decide_eq_true h2]
  obtain ⟨c0, c1, c2, c3, c4, c5, c6, c7, c8⟩ := h
  simp (disch := omega) only [fX4_liken, k1, k2, bit0, if_false, pnl, pb, pb2, pinc, pnin, pc0, if_pos, if_true, c8]
  unfold lik
  refine ⟨_, rfl, ⟨?_, ?_, ?_, ?_, ?_, fun g' h => ?_, fun q h => ?_, fun l h => ?_, fun j h => ?_⟩, fun j hj => ?_⟩
  · simp (disch := omega) only [nU_n]; exact c0
  · simp (disch := omega) only [nU_n]; exact c1
  · simp (disch := omega) only [nU_n]; exact c2
  · simp (disch := omega) only [nU_n]; rw [opn_upd (fun l hl => by omega)]; exact c3
  · simp (disch := omega) only [nU_n, upd_n]; exact c4
  · simp (disch := omega) only [nU_n, upd_n]; exact c5 g' h
  · simp (disch := omega) only [nU_n, upd_n]; exact c6 q h
  · simp (disch := omega) only [nU_n, upd_n]; exact c7 l h
  · by_cases e : j = b
    · subst e; simp (disch := omega) only [nU_s, upd_s]
    · simp (disch := omega) only [nU_s, upd_n]; exact c8 j h
  · simp (disch := omega) only [nU_n]
