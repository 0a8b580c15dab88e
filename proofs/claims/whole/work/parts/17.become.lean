/-! PURE 8: a town becomes another one; a row becomes another one -/
theorem WF.congr {r r' : Nat → Int32} {G P L : Nat} (h : WF r G P L) (e : ∀ j, j < 74 → r' j = r j) : WF r' G P L := by
  obtain ⟨hG, hP, hL, e0, e1, e2, hg', hp', hl', hc⟩ := h
  refine ⟨hG, hP, hL, ?_, ?_, ?_, fun g h => ?_, fun q h => ?_, fun l h => ?_, fun j h => ?_⟩
  · rw [e _ (by omega)]; exact e0
  · rw [e _ (by omega)]; exact e1
  · rw [e _ (by omega)]; exact e2
  · rw [e _ (by omega), e _ (by omega), e _ (by omega)]; exact hg' g h
  · rw [e _ (by omega)]; exact hp' q h
  · rw [e _ (by omega), e _ (by omega), e _ (by omega), e _ (by omega)]; exact hl' l h
  · rw [e _ (by omega)]; exact hc j h
theorem CT.congr {σ : nS} {k : Nat} {r r' : Nat → Int32} {G P L : Nat} (h : CT σ k r G P L) (hG : G ≤ 8) (hP : P ≤ 6) (hL : L ≤ 8) (e : ∀ j, j < 74 → r' j = r j) : CT σ k r' G P L := by
  obtain ⟨c0, c1, c2, c3, c4, c5, c6, c7, c8⟩ := h
  have eo : bset (opn r') L = bset (opn r) L := bset_congr (fun i hi => by rw [opn, opn, e _ (by omega)])
  refine ⟨c0, c1, c2, by rw [eo]; exact c3, by rw [e _ (by omega)]; exact c4, fun g h => ?_, fun q h => ?_, fun l h => ?_, fun j h => ?_⟩
  · rw [e _ (by omega), e _ (by omega), e _ (by omega)]; exact c5 g h
  · rw [e _ (by omega)]; exact c6 q h
  · rw [e _ (by omega), e _ (by omega), e _ (by omega)]; exact c7 l h
  · rw [e _ (by omega)]; exact c8 j h
def cpR (a b : Nat → Int32) : Nat → Int32 := fun j => if j < 74 then a j else b j
theorem cpR_e (a b : Nat → Int32) (j : Nat) (h : j < 74) : cpR a b j = a j := by rw [cpR, if_pos h]
theorem M_copies {σ : nS} {k0 k1 : Nat} (hne : k0 ≠ k1) : fX6_copies k0 k1 σ = some ((), nU σ k1 (cpR (σ k0) (σ k1))) := by
  rw [fX6_copies]
  have key := ploop (fun n i => fX6_copies_b2 n k0 k1 (nI i) (nU σ k1 (fun j => if j < i then σ k0 j else σ k1 j))) (some ((), nU σ k1 (cpR (σ k0) (σ k1)))) 74
    (fun n => by simp (disch := omega) only [fX6_copies_b2, pnl, pb, pb2, p43, p344, p28, p66, pa0, pinc, pa2, pa3, pk0, pk1, pk2, pk3, tc0, tc1, tc2, tc3, pnin, pc0, if_pos, if_true, fX6_ofG, fX6_ofL, pl74, ple]; rfl)
    (fun n i hi => by
      simp (disch := omega) only [fX6_copies_b2, pnl, pb, pb2, p43, p344, p28, p66, pa0, pinc, pa2, pa3, pk0, pk1, pk2, pk3, tc0, tc1, tc2, tc3, pnin, pc0, if_pos, if_true, fX6_ofG, fX6_ofL, pl74, ple, if_neg, nU_s, nUU, nU_n (j := k0) (k := k1) σ _ hne]
      congr 2
      funext j
      by_cases c : j = i
      · subst c; simp [upd]
      · have : (j < i + 1) = (j < i) := propext (by omega)
        simp [upd, c, this])
  have h9 := key 4096 0 (by omega) (by omega)
  have e0 : (fun j => if j < 0 then σ k0 j else σ k1 j) = σ k1 := by funext j; simp
  rw [e0, nUid] at h9
  exact h9
theorem vcp {f g : Nat → Int32} {n j : Nat} (h : j < n) : va_cpy f g 0 0 n j = f j := by
  rw [pk_cpy_in (by omega) (by omega)]; congr 1; omega
theorem tc8 : (8 : Int32).toNatClampNeg = 8 := by decide
theorem tc6 : (6 : Int32).toNatClampNeg = 6 := by decide
theorem cg9 : nin (0 : Int32) (8 + 1) = True := by decide
theorem cg7 : nin (0 : Int32) (6 + 1) = True := by decide
theorem cA8 : (0 ≤ ((8 : Int32)).toInt ∧ ((0 : Int32)).toInt + ((8 : Int32)).toInt ≤ ((8 : Nat) : Int) ∧ ((0 : Int32)).toInt + ((8 : Int32)).toInt ≤ ((8 : Nat) : Int)) = True := by decide
theorem cA6 : (0 ≤ ((6 : Int32)).toInt ∧ ((0 : Int32)).toInt + ((6 : Int32)).toInt ≤ ((6 : Nat) : Int) ∧ ((0 : Int32)).toInt + ((6 : Int32)).toInt ≤ ((6 : Nat) : Int)) = True := by decide
theorem C_become {σ : nS} {k0 k1 : Nat} {r : Nat → Int32} {G P L : Nat} (h : CT σ k1 r G P L) (w : WF r G P L) (hd : k0 + 8 < k1 ∨ k1 + 8 < k0) : ∃ τ, fX4_become k0 k1 σ = some ((), τ) ∧ CT τ k0 r G P L ∧ Fr k0 σ τ := by
  have hG := w.1
  have hP := w.2.1
  have hL := w.2.2.1
  obtain ⟨c0, c1, c2, c3, c4, c5, c6, c7, c8⟩ := h
  simp only [fX4_become, pnl, cg9, cg7, cA8, cA6, if_true, tc0, tc8, tc6]
  refine ⟨_, rfl, ⟨?_, ?_, ?_, ?_, ?_, fun g hg => ?_, fun q hq => ?_, fun l hl => ?_, fun j hj => ?_⟩, fun j hj => ?_⟩
  · simp (disch := omega) only [nU_s, nU_n, upd_s, upd_n]; exact c0
  · simp (disch := omega) only [nU_s, nU_n, upd_s, upd_n]; exact c1
  · simp (disch := omega) only [nU_s, nU_n, upd_s, upd_n]; exact c2
  · simp (disch := omega) only [nU_s, nU_n, upd_s, upd_n]; exact c3
  · simp (disch := omega) only [nU_s, nU_n, upd_s, upd_n]; exact c4
  · simp (disch := omega) only [nU_s, nU_n, vcp]; exact c5 g hg
  · simp (disch := omega) only [nU_s, nU_n, vcp]; exact c6 q hq
  · simp (disch := omega) only [nU_s, nU_n, vcp]; exact c7 l hl
  · simp (disch := omega) only [nU_s, nU_n, vcp]; exact c8 j hj
  · simp (disch := omega) only [nU_n]
/-- what the reference's scratch leaves -/
theorem Inv.scr {σ τ : nS} (h : Inv σ) (f : ∀ j, j ≠ 65 → j ≠ 67 → j ≠ 68 → j ≠ 69 → j ≠ 70 → j ≠ 71 → ¬ (10 ≤ j ∧ j ≤ 18) → ¬ (45 ≤ j ∧ j ≤ 62) → j ≠ 63 → j ≠ 0 → τ j = σ j) (e0 : τ 0 3 = σ 0 3) (e1 : τ 63 4 = σ 63 4) : Inv τ :=
  h.frame (fun j hj => f j (by unfold core at hj; omega) (by unfold core at hj; omega) (by unfold core at hj; omega) (by unfold core at hj; omega) (by unfold core at hj; omega) (by unfold core at hj; omega) (by unfold core at hj; omega) (by unfold core at hj; omega) (by unfold core at hj; omega) (by unfold core at hj; omega)) e0 e1
