/-! PURE 24: towns by seeds -/
def nxs (s : Int32) : Int32 := s * 1103515245 + 12345
def dv (s : Int32) (n : Nat) : Int32 := (s &&& 2147483647) / 65536 - (s &&& 2147483647) / 65536 / nI n * nI n
theorem pself (x : Int32) : x = nI x.toBitVec.toNat := by
  apply Int32.toBitVec_inj.mp
  show x.toBitVec = BitVec.ofNat 32 x.toBitVec.toNat
  simp
theorem dv_rng (s : Int32) {n : Nat} (h1 : 0 < n) (h2 : n < 1000) : nin (dv s n) n := by
  have e1 : (2147483647 : Int32) = nI 2147483647 := by decide
  have e2 : (65536 : Int32) = nI 65536 := by decide
  have ha : s &&& 2147483647 = nI (s.toBitVec.toNat &&& 2147483647) := by
    rw [e1]
    have := pself s
    rw [← pand, ← this]
  have hb : s.toBitVec.toNat &&& 2147483647 ≤ 2147483647 := Nat.and_le_right
  rw [dv, ha, e2, pk_div (by omega) (by omega) (by omega)]
  generalize s.toBitVec.toNat &&& 2147483647 = a at hb
  have hc : a / 65536 ≤ a := Nat.div_le_self _ _
  rw [pk_rem (by omega) h1 (by omega)]
  exact pnin0 (by have := Nat.mod_lt (a / 65536) h1; omega) (Nat.mod_lt _ h1)
theorem CT_own {τ : nS} {k : Nat} {r : Nat → Int32} {G P L g : Nat} (v : Int32) (hc : CT τ k r G P L) (hg : g < 8) (hG : G ≤ 8) (hP : P ≤ 6) (hL : L ≤ 8) : CT (nU τ (k + 3) (upd (τ (k + 3)) g v)) k (upd r (4 + 3 * g + 2) v) G P L := by
  obtain ⟨c0, c1, c2, c3, c4, c5, c6, c7, c8⟩ := hc
  refine ⟨?_, ?_, ?_, ?_, ?_, fun g' h => ⟨?_, ?_, ?_⟩, fun q h => ?_, fun l h => ?_, fun j h => ?_⟩
  · simp (disch := omega) only [nU_n]; exact c0
  · simp (disch := omega) only [nU_n]; exact c1
  · simp (disch := omega) only [nU_n]; exact c2
  · simp (disch := omega) only [nU_n]; rw [opn_upd (fun l hl => by omega)]; exact c3
  · simp (disch := omega) only [nU_n, upd_n]; exact c4
  · simp (disch := omega) only [nU_n, upd_n]; exact (c5 g' h).1
  · simp (disch := omega) only [nU_n, upd_n]; exact (c5 g' h).2.1
  · by_cases e : g' = g
    · subst e; simp (disch := omega) only [nU_s, upd_s]
    · simp (disch := omega) only [nU_s, upd_n]; exact (c5 g' h).2.2
  · simp (disch := omega) only [nU_n, upd_n]; exact c6 q h
  · simp (disch := omega) only [nU_n, upd_n]; exact c7 l h
  · simp (disch := omega) only [nU_n, upd_n]; exact c8 j h
theorem CT_tas {τ : nS} {k : Nat} {r : Nat → Int32} {G P L g : Nat} (v : Int32) (hc : CT τ k r G P L) (hg : g < 6) (hG : G ≤ 8) (hP : P ≤ 6) (hL : L ≤ 8) : CT (nU τ (k + 4) (upd (τ (k + 4)) g v)) k (upd r (28 + g) v) G P L := by
  obtain ⟨c0, c1, c2, c3, c4, c5, c6, c7, c8⟩ := hc
  refine ⟨?_, ?_, ?_, ?_, ?_, fun g' h => ?_, fun q h => ?_, fun l h => ?_, fun j h => ?_⟩
  · simp (disch := omega) only [nU_n]; exact c0
  · simp (disch := omega) only [nU_n]; exact c1
  · simp (disch := omega) only [nU_n]; exact c2
  · simp (disch := omega) only [nU_n]; rw [opn_upd (fun l hl => by omega)]; exact c3
  · simp (disch := omega) only [nU_n, upd_n]; exact c4
  · simp (disch := omega) only [nU_n, upd_n]; exact c5 g' h
  · by_cases e : q = g
    · subst e; simp (disch := omega) only [nU_s, upd_s]
    · simp (disch := omega) only [nU_s, upd_n]; exact c6 q h
  · simp (disch := omega) only [nU_n, upd_n]; exact c7 l h
  · simp (disch := omega) only [nU_n, upd_n]; exact c8 j h
theorem WF_own {r : Nat → Int32} {G P L g : Nat} {v : Int32} (h : WF r G P L) (hg : g < 8) (hv : nin v P) : WF (upd r (4 + 3 * g + 2) v) G P L := by
  obtain ⟨hG, hP, hL, e0, e1, e2, hg', hp', hl', hc⟩ := h
  refine ⟨hG, hP, hL, ?_, ?_, ?_, fun g' h => ⟨?_, ?_, ?_⟩, fun q h => ?_, fun l h => ?_, fun j h => ?_⟩
  · simp (disch := omega) only [upd_n]; exact e0
  · simp (disch := omega) only [upd_n]; exact e1
  · simp (disch := omega) only [upd_n]; exact e2
  · simp (disch := omega) only [upd_n]; exact (hg' g' h).1
  · simp (disch := omega) only [upd_n]; exact (hg' g' h).2.1
  · by_cases e : g' = g
    · subst e; rw [upd_s]; exact hv
    · rw [upd_n _ _ (by omega)]; exact (hg' g' h).2.2
  · simp (disch := omega) only [upd_n]; exact hp' q h
  · simp (disch := omega) only [upd_n]; exact hl' l h
  · simp (disch := omega) only [upd_n]; exact hc j h
theorem WF_tas {r : Nat → Int32} {G P L g : Nat} {v : Int32} (h : WF r G P L) (hg : g < 6) (hv : nin v 10) : WF (upd r (28 + g) v) G P L := by
  obtain ⟨hG, hP, hL, e0, e1, e2, hg', hp', hl', hc⟩ := h
  refine ⟨hG, hP, hL, ?_, ?_, ?_, fun g' h => ?_, fun q h => ?_, fun l h => ?_, fun j h => ?_⟩
  · simp (disch := omega) only [upd_n]; exact e0
  · simp (disch := omega) only [upd_n]; exact e1
  · simp (disch := omega) only [upd_n]; exact e2
  · simp (disch := omega) only [upd_n]; exact hg' g' h
  · by_cases e : q = g
    · subst e; rw [upd_s]; exact hv
    · rw [upd_n _ _ (by omega)]; exact hp' q h
  · simp (disch := omega) only [upd_n]; exact hl' l h
  · simp (disch := omega) only [upd_n]; exact hc j h
def drO (r : Nat → Int32) (s : Int32) (P : Nat) : Nat → (Nat → Int32) × Int32
  | 0 => (r, s)
  | g + 1 => (upd (drO r s P g).1 (4 + 3 * g + 2) (dv (nxs (drO r s P g).2) P), nxs (drO r s P g).2)
def drT (r : Nat → Int32) (s : Int32) : Nat → (Nat → Int32) × Int32
  | 0 => (r, s)
  | q + 1 => (upd (drT r s q).1 (28 + q) (dv (nxs (drT r s q).2) 10), nxs (drT r s q).2)
theorem WF_drO {r : Nat → Int32} {s : Int32} {G P L : Nat} (h : WF r G P L) (hP : 0 < P) : ∀ g, g ≤ 8 → WF (drO r s P g).1 G P L := by
  intro g
  induction g with
  | zero => intro _; exact h
  | succ g ih =>
    intro hg
    exact WF_own (ih (by omega)) (by omega) (dv_rng _ hP (by have := h.2.1; omega))
theorem WF_drT {r : Nat → Int32} {s : Int32} {G P L : Nat} (h : WF r G P L) : ∀ g, g ≤ 6 → WF (drT r s g).1 G P L := by
  intro g
  induction g with
  | zero => intro _; exact h
  | succ g ih =>
    intro hg
    exact WF_tas (ih (by omega)) (by omega) (dv_rng _ (by omega) (by omega))
theorem drO_3 {r : Nat → Int32} {s : Int32} {P : Nat} : ∀ g, (drO r s P g).1 3 = r 3 := by
  intro g
  induction g with
  | zero => rfl
  | succ g ih => rw [drO]; simp only; rw [upd_n _ _ (by omega)]; exact ih
theorem drT_3 {r : Nat → Int32} {s : Int32} : ∀ g, (drT r s g).1 3 = r 3 := by
  intro g
  induction g with
  | zero => rfl
  | succ g ih => rw [drT]; simp only; rw [upd_n _ _ (by omega)]; exact ih
/-- what stays in a draw: class, reference -/
def FwC (σ τ : nS) : Prop := (∀ j, j ≠ 0 → (j < 10 ∨ 18 < j) → τ j = σ j) ∧ ∀ q, q ≠ 8 → τ 0 q = σ 0 q
def FwM (σ τ : nS) : Prop := (∀ j, j ≠ 63 → j ≠ 65 → τ j = σ j) ∧ ∀ q, q ≠ 14 → τ 63 q = σ 63 q
theorem FwC.tr {σ τ υ : nS} (h1 : FwC σ τ) (h2 : FwC τ υ) : FwC σ υ := ⟨fun j a b => (h2.1 j a b).trans (h1.1 j a b), fun q a => (h2.2 q a).trans (h1.2 q a)⟩
theorem FwM.tr {σ τ υ : nS} (h1 : FwM σ τ) (h2 : FwM τ υ) : FwM σ υ := ⟨fun j a b => (h2.1 j a b).trans (h1.1 j a b), fun q a => (h2.2 q a).trans (h1.2 q a)⟩
theorem C_draw {τ : nS} {n : Nat} (h1 : 0 < n) (h2 : n < 1000) : fX5_draw (nI n) τ = some (dv (nxs (τ 0 8)) n, nU τ 0 (upd (τ 0) 8 (nxs (τ 0 8)))) := by
  have q1 : ¬ nI n ≤ 0 := by rw [pl0, ple (by omega) (by omega)]; omega
  have q2 : ¬ nI n = 0 := by rw [pl0, peq (by omega) (by omega)]; omega
  rw [fX5_draw, pnl, if_neg q1, if_pos q2, nU_s, upd_s]
  rfl
theorem M_drawn {τ : nS} {n : Nat} (h1 : 0 < n) (h2 : n < 1000) : fX6_drawn (nI n) τ = some (dv (nxs (τ 63 14)) n, nU τ 63 (upd (τ 63) 14 (nxs (τ 63 14)))) := by
  have q2 : ¬ nI n = 0 := by rw [pl0, peq (by omega) (by omega)]; omega
  rw [fX6_drawn, pnl, if_pos q2, nU_s, upd_s]
  rfl
theorem C_drawTown {σ : nS} {r r0 : Nat → Int32} {G P L : Nat} (hc : CT σ 1 r0 G P L) (hw0 : WF r0 G P L) (hr : ∀ j, j < 74 → r j = r0 j) (hP0 : 0 < P) : ∃ τ, fX5_drawTown σ = some ((), τ) ∧ CT τ 10 (drT (drO r (σ 0 8) P G).1 (drO r (σ 0 8) P G).2 P).1 G P L ∧ τ 0 8 = (drT (drO r (σ 0 8) P G).1 (drO r (σ 0 8) P G).2 P).2 ∧ FwC σ τ := by
  have hw : WF r G P L := hw0.congr hr
  have hG := hw.1
  have hP := hw.2.1
  have hL := hw.2.2.1
  obtain ⟨τ0, b1, b2, b3⟩ := C_become (k0 := 10) hc hw0 (by omega)
  have b2 := b2.congr hG hP hL hr
  rw [fX5_drawTown, b1, pb2]
  have e10 : (10 : Int32) = nI 10 := pl10
  generalize hs : σ 0 8 = s
  have F0 : FwC σ τ0 := ⟨fun j h1 h2 => b3 j (by omega), fun q hq => by rw [b3 0 (by omega)]⟩
  have s0 : τ0 0 8 = s := by rw [b3 0 (by omega)]; exact hs
  refine ploopS (fun n g τ => fX5_drawTown_b13 n (nI g) τ) (fun g τ => CT τ 10 (drO r s P g).1 G P L ∧ τ 0 8 = (drO r s P g).2 ∧ FwC σ τ) (fun o => ∃ τ, o = some ((), τ) ∧ CT τ 10 (drT (drO r s P G).1 (drO r s P G).2 P).1 G P L ∧ τ 0 8 = (drT (drO r s P G).1 (drO r s P G).2 P).2 ∧ FwC σ τ) G
    (fun n τ hI => ?_) (fun n g τ hg hI hk => ?_) 4096 0 τ0 (by omega) (by omega) ⟨b2, s0, F0⟩
  · obtain ⟨i1, i2, i3⟩ := hI
    have c' : nI G ≤ nI G := by rw [ple (by omega) (by omega)]; omega
    rw [fX5_drawTown_b13, i1.1, if_pos c']
    generalize (drO r s P G).1 = r1 at i1
    generalize (drO r s P G).2 = s1 at i2
    refine ploopS (fun n q τ => fX5_drawTown_b52 n (nI q) τ) (fun q τ => CT τ 10 (drT r1 s1 q).1 G P L ∧ τ 0 8 = (drT r1 s1 q).2 ∧ FwC σ τ) (fun o => ∃ τ, o = some ((), τ) ∧ CT τ 10 (drT r1 s1 P).1 G P L ∧ τ 0 8 = (drT r1 s1 P).2 ∧ FwC σ τ) P
      (fun n τ hI => ?_) (fun n q τ hq hI hk => ?_) 4096 0 τ (by omega) (by omega) ⟨i1, i2, i3⟩
    · have c' : nI P ≤ nI P := by rw [ple (by omega) (by omega)]; omega
      rw [fX5_drawTown_b52, hI.1.2.1, if_pos c']
      exact ⟨τ, rfl, hI⟩
    · obtain ⟨i1, i2, i3⟩ := hI
      have c' : ¬ nI P ≤ nI q := by rw [ple (by omega) (by omega)]; omega
      rw [fX5_drawTown_b52, i1.2.1, if_neg c', pl10, C_draw (by omega) (by omega), pb2, if_pos (pnin0 (by omega) (show q < 6 by omega)), pc0 (by omega), pnl, pnl, pinc, i2]
      refine hk _ ⟨?_, ?_, ?_, fun q2 hq2 => ?_⟩
      · have h9 := CT_tas (τ := nU τ 0 (upd (τ 0) 8 (nxs (drT r1 s1 q).2))) (k := 10) (g := q) (dv (nxs (drT r1 s1 q).2) 10) (i1.frame (fun j h1 h2 => nU_n _ _ (by omega))) (by omega) hG hP hL
        exact h9
      · rw [nU_n _ _ (by omega), nU_s, upd_s]; rfl
      · intro j h1 h2
        rw [nU_n _ _ (by omega), nU_n _ _ h1]; exact i3.1 j h1 h2
      · rw [nU_n _ _ (by omega), nU_s, upd_n _ _ hq2]; exact i3.2 q2 hq2
  · obtain ⟨i1, i2, i3⟩ := hI
    have c' : ¬ nI G ≤ nI g := by rw [ple (by omega) (by omega)]; omega
    rw [fX5_drawTown_b13, i1.1, if_neg c', i1.2.1, C_draw hP0 (by omega), pb2, if_pos (pnin0 (by omega) (show g < 8 by omega)), pc0 (by omega), pnl, pnl, pinc, i2]
    refine hk _ ⟨?_, ?_, ?_, fun q2 hq2 => ?_⟩
    · have h9 := CT_own (τ := nU τ 0 (upd (τ 0) 8 (nxs (drO r s P g).2))) (k := 10) (g := g) (dv (nxs (drO r s P g).2) P) (i1.frame (fun j h1 h2 => nU_n _ _ (by omega))) (by omega) hG hP hL
      exact h9
    · rw [nU_n _ _ (by omega), nU_s, upd_s]; rfl
    · intro j h1 h2
      rw [nU_n _ _ (by omega), nU_n _ _ h1]; exact i3.1 j h1 h2
    · rw [nU_n _ _ (by omega), nU_s, upd_n _ _ hq2]; exact i3.2 q2 hq2
/-- the reference's draw of one town, up to its sum -/
theorem M_drawTown {κ : nS} {r : Nat → Int32} {G P L : Nat} {c : Int32 → Int32 → Int32 → Int32 → nS → Option (Int32 × nS)} {a1 a3 a4 a5 : Int32} (hw : WF (κ 64) G P L) (hr : κ 65 = r) (hP0 : 0 < P) :
    ∃ κ', fX6_towns_b64 c 4096 a1 a3 a4 a5 (nI 0) κ = (if a3 = 0 then (fX6_quarrelsIn 65 κ').bind fun r7 => c a1 a3 (a4 + r7) (a5 + 1) κ' else (fX6_richesAll 65 κ').bind fun r3 => c a1 a3 (a4 + r3) (a5 + 1) κ') ∧ κ' 65 = (drT (drO r (κ 63 14) P G).1 (drO r (κ 63 14) P G).2 P).1 ∧ κ' 63 14 = (drT (drO r (κ 63 14) P G).1 (drO r (κ 63 14) P G).2 P).2 ∧ FwM κ κ' := by
  have hG := hw.1
  have hP := hw.2.1
  generalize hs : κ 63 14 = s
  refine ploopS (fun n g τ => fX6_towns_b64 c n a1 a3 a4 a5 (nI g) τ) (fun g τ => τ 65 = (drO r s P g).1 ∧ τ 63 14 = (drO r s P g).2 ∧ FwM κ τ) (fun o => ∃ κ', o = (if a3 = 0 then (fX6_quarrelsIn 65 κ').bind fun r7 => c a1 a3 (a4 + r7) (a5 + 1) κ' else (fX6_richesAll 65 κ').bind fun r3 => c a1 a3 (a4 + r3) (a5 + 1) κ') ∧ κ' 65 = (drT (drO r s P G).1 (drO r s P G).2 P).1 ∧ κ' 63 14 = (drT (drO r s P G).1 (drO r s P G).2 P).2 ∧ FwM κ κ') G
    (fun n τ hI => ?_) (fun n g τ hg hI hk => ?_) 4096 0 κ (by omega) (by omega) ⟨hr, hs, fun _ _ _ => rfl, fun _ _ => rfl⟩
  · obtain ⟨i1, i2, i3⟩ := hI
    have c' : nI G ≤ nI G := by rw [ple (by omega) (by omega)]; omega
    have e64 : τ 64 = κ 64 := i3.1 64 (by omega) (by omega)
    rw [fX6_towns_b64]
    simp only [pk0, if_true, tc0, e64, hw.2.2.2.1, if_pos c']
    generalize (drO r s P G).1 = r1 at i1
    generalize (drO r s P G).2 = s1 at i2
    rw [pl0]
    refine ploopS (fun n q τ => fX6_towns_b106 c n a1 a3 a4 a5 (nI q) τ) (fun q τ => τ 65 = (drT r1 s1 q).1 ∧ τ 63 14 = (drT r1 s1 q).2 ∧ FwM κ τ) (fun o => ∃ κ', o = (if a3 = nI 0 then (fX6_quarrelsIn 65 κ').bind fun r7 => c a1 a3 (a4 + r7) (a5 + 1) κ' else (fX6_richesAll 65 κ').bind fun r3 => c a1 a3 (a4 + r3) (a5 + 1) κ') ∧ κ' 65 = (drT r1 s1 P).1 ∧ κ' 63 14 = (drT r1 s1 P).2 ∧ FwM κ κ') P
      (fun n τ hI => ?_) (fun n q τ hq hI hk => ?_) 4096 0 τ (by omega) (by omega) ⟨i1, i2, i3⟩
    · have c' : nI P ≤ nI P := by rw [ple (by omega) (by omega)]; omega
      have e64 : τ 64 = κ 64 := hI.2.2.1 64 (by omega) (by omega)
      rw [fX6_towns_b106]
      simp only [pk1, if_true, tc1, e64, hw.2.2.2.2.1, if_pos c', pnl]
      exact ⟨τ, rfl, hI⟩
    · obtain ⟨i1, i2, i3⟩ := hI
      have c' : ¬ nI P ≤ nI q := by rw [ple (by omega) (by omega)]; omega
      have e64 : τ 64 = κ 64 := i3.1 64 (by omega) (by omega)
      have b28 : nin ((28 : Int32) + nI q) 74 := by rw [p28]; exact pnin0 (by omega) (by omega)
      have t28 : ((28 : Int32) + nI q).toNatClampNeg = 28 + q := by rw [p28]; exact pc0 (by omega)
      rw [fX6_towns_b106]
      simp only [pk1, if_true, tc1, e64, hw.2.2.2.2.1, if_neg c']
      rw [pl10, M_drawn (by omega) (by omega), pb2, if_pos b28, t28, pnl, pnl, pinc, i2, nU_n (j := 65) _ _ (by omega), i1]
      refine hk _ ⟨?_, ?_, ?_, fun q2 hq2 => ?_⟩
      · rw [nU_s]; rfl
      · rw [nU_n _ _ (by omega), nU_s, upd_s]; rfl
      · intro j h1 h2
        rw [nU_n _ _ h2, nU_n _ _ h1]; exact i3.1 j h1 h2
      · rw [nU_n _ _ (by omega), nU_s, upd_n _ _ hq2]; exact i3.2 q2 hq2
  · obtain ⟨i1, i2, i3⟩ := hI
    have c' : ¬ nI G ≤ nI g := by rw [ple (by omega) (by omega)]; omega
    have e64 : τ 64 = κ 64 := i3.1 64 (by omega) (by omega)
    rw [fX6_towns_b64]
    simp only [pk0, pk1, if_true, tc0, tc1, e64, hw.2.2.2.1, hw.2.2.2.2.1, if_neg c', fX6_ofG, p43, pb, pa2]
    rw [M_drawn hP0 (by omega), pb2, if_pos (pnin0 (by omega) (by omega)), pc0 (by omega), pnl, pnl, pinc, i2, nU_n (j := 65) _ _ (by omega), i1]
    refine hk _ ⟨?_, ?_, ?_, fun q2 hq2 => ?_⟩
    · rw [nU_s]; rfl
    · rw [nU_n _ _ (by omega), nU_s, upd_s]; rfl
    · intro j h1 h2
      rw [nU_n _ _ h2, nU_n _ _ h1]; exact i3.1 j h1 h2
    · rw [nU_n _ _ (by omega), nU_s, upd_n _ _ hq2]; exact i3.2 q2 hq2
