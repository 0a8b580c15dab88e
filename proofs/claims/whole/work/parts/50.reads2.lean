/-! PURE 41: the reference reads a statement, by its letter -/
theorem b163_0 (τ : nS) : fX6_readsStatement_b163 0 τ = some (0, τ) := by rw [fX6_readsStatement_b163, if_pos rfl]
theorem b136_0 (τ : nS) : fX6_readsStatement_b136 τ = some (0, τ) := by rw [fX6_readsStatement_b136, fX6_readsStatement_b137, b163_0]
theorem b109_0 (τ : nS) : fX6_readsStatement_b109 τ = some (0, τ) := by rw [fX6_readsStatement_b109, fX6_readsStatement_b110, b163_0]
/-- the semicolon -/
theorem M_sc {τ : nS} {d N i : Nat} {c : Nat → Int32} (h : TX τ d N c) (hb : bts c) (hd : d < 8) (hN : N ≤ 100) (hi : i < 1000) (e : τ 63 5 = nI i) : ∃ τ', FT τ τ' ∧ fX6_readsStatement_b163 1 τ = some (bi (scan c N 0 i).1, τ') ∧ τ' 63 5 = nI (scan c N 0 i).2 ∧ τ' 68 = τ 68 := by
  obtain ⟨s1, s2⟩ := M_semi h hb hd hN hi e
  by_cases q : i < N ∧ c i = 59
  · rw [scan_0t q.1 q.2]
    exact ⟨_, plc_ft τ (i + 1), s1 q, plc_5 _ _, plc_o _ _ (by omega)⟩
  · rw [scan_0f q]
    exact ⟨τ, FT.rf, s2 q, e, rfl⟩
theorem M_seq1 {τ : nS} {d N i : Nat} {c : Nat → Int32} (h : TX τ d N c) (hb : bts c) (hd : d < 8) (hN : N ≤ 100) (hi : i < 900) (e : τ 63 5 = nI i) :
    ∃ τ', FT τ τ' ∧ (nb2 (fX6_readsNumber 0 1 τ) fun r t => fX6_readsStatement_b163 r t) = some (bi (scan c N 1 i).1, τ') ∧ τ' 63 5 = nI (scan c N 1 i).2 ∧ ((scan c N 1 i).1 = true → τ' 68 0 = c i - 48) := by
  obtain ⟨τ1, f1, -, a1, a2⟩ := M_n1 (k := 0) h hb hd hN (by omega) (show i < 1000 by omega) e
  by_cases q : i < N ∧ isd (c i) = true
  · obtain ⟨r1, r2, r3⟩ := a1 q
    have r1 : fX6_readsNumber 0 1 τ = some (1, τ1) := r1
    obtain ⟨τ2, g1, g2, g3, g4⟩ := M_sc (h.ft f1) hb hd hN (show i + 1 < 1000 by omega) r2
    rw [scan_st q.1 q.2, r1, pb2]
    exact ⟨τ2, f1.tr g1, g2, g3, fun _ => by rw [g4]; exact r3⟩
  · obtain ⟨r1, r2⟩ := a2 q
    have r1 : fX6_readsNumber 0 1 τ = some (0, τ1) := r1
    rw [scan_sf q, r1, pb2]
    exact ⟨τ1, f1, b163_0 τ1, r2, fun z => by cases z⟩
theorem M_seq2 {τ : nS} {d N i : Nat} {c : Nat → Int32} (h : TX τ d N c) (hb : bts c) (hd : d < 8) (hN : N ≤ 100) (hi : i < 900) (e : τ 63 5 = nI i) :
    ∃ τ', FT τ τ' ∧ (nb2 (fX6_readsNumber 0 1 τ) fun r t => if r = 0 then fX6_readsStatement_b136 t else nb2 (fX6_readsNumber 1 1 t) fun r2 t2 => if r2 = 0 then fX6_readsStatement_b136 t2 else fX6_readsStatement_b137 1 t2) = some (bi (scan c N 2 i).1, τ') ∧ τ' 63 5 = nI (scan c N 2 i).2 ∧ ((scan c N 2 i).1 = true → τ' 68 0 = c i - 48 ∧ τ' 68 1 = c (i + 1) - 48) := by
  obtain ⟨τ1, f1, -, a1, a2⟩ := M_n1 (k := 0) h hb hd hN (by omega) (show i < 1000 by omega) e
  by_cases q : i < N ∧ isd (c i) = true
  · obtain ⟨r1, r2, r3⟩ := a1 q
    have r1 : fX6_readsNumber 0 1 τ = some (1, τ1) := r1
    obtain ⟨τ2, f2, o2, b1, b2⟩ := M_n1 (k := 1) (h.ft f1) hb hd hN (by omega) (show i + 1 < 1000 by omega) r2
    rw [scan_st q.1 q.2, r1, pb2, if_neg (by decide)]
    by_cases q2 : i + 1 < N ∧ isd (c (i + 1)) = true
    · obtain ⟨s1, s2, s3⟩ := b1 q2
      have s1 : fX6_readsNumber 1 1 τ1 = some (1, τ2) := s1
      obtain ⟨τ3, g1, g2, g3, g4⟩ := M_sc ((h.ft f1).ft f2) hb hd hN (show i + 1 + 1 < 1000 by omega) s2
      rw [scan_st q2.1 q2.2, s1, pb2, if_neg (by decide), fX6_readsStatement_b137]
      refine ⟨τ3, (f1.tr f2).tr g1, g2, g3, fun _ => ⟨?_, ?_⟩⟩
      · rw [g4, o2 0 (by omega)]; exact r3
      · rw [g4]; exact s3
    · obtain ⟨s1, s2⟩ := b2 q2
      have s1 : fX6_readsNumber 1 1 τ1 = some (0, τ2) := s1
      rw [scan_sf q2, s1, pb2, if_pos rfl]
      exact ⟨τ2, f1.tr f2, b136_0 τ2, s2, fun z => by cases z⟩
  · obtain ⟨r1, r2⟩ := a2 q
    have r1 : fX6_readsNumber 0 1 τ = some (0, τ1) := r1
    rw [scan_sf q, r1, pb2, if_pos rfl]
    exact ⟨τ1, f1, b136_0 τ1, r2, fun z => by cases z⟩
theorem M_seq3 {τ : nS} {d N i : Nat} {c : Nat → Int32} (h : TX τ d N c) (hb : bts c) (hd : d < 8) (hN : N ≤ 100) (hi : i < 900) (e : τ 63 5 = nI i) :
    ∃ τ', FT τ τ' ∧ (nb2 (fX6_readsNumber 0 1 τ) fun r8 t9 => if r8 = 0 then fX6_readsStatement_b109 t9 else nb2 (fX6_readsNumber 1 1 t9) fun r11 t12 => if r11 = 0 then fX6_readsStatement_b109 t12 else nb2 (fX6_readsNumber 2 1 t12) fun r14 t15 => if r14 = 0 then fX6_readsStatement_b109 t15 else fX6_readsStatement_b110 1 t15) = some (bi (scan c N 3 i).1, τ') ∧ τ' 63 5 = nI (scan c N 3 i).2 ∧ ((scan c N 3 i).1 = true → τ' 68 0 = c i - 48 ∧ τ' 68 1 = c (i + 1) - 48 ∧ τ' 68 2 = c (i + 2) - 48) := by
  obtain ⟨τ1, f1, -, a1, a2⟩ := M_n1 (k := 0) h hb hd hN (by omega) (show i < 1000 by omega) e
  by_cases q : i < N ∧ isd (c i) = true
  · obtain ⟨r1, r2, r3⟩ := a1 q
    have r1 : fX6_readsNumber 0 1 τ = some (1, τ1) := r1
    obtain ⟨τ2, f2, o2, b1, b2⟩ := M_n1 (k := 1) (h.ft f1) hb hd hN (by omega) (show i + 1 < 1000 by omega) r2
    rw [scan_st q.1 q.2, r1, pb2, if_neg (by decide)]
    by_cases q2 : i + 1 < N ∧ isd (c (i + 1)) = true
    · obtain ⟨s1, s2, s3⟩ := b1 q2
      have s1 : fX6_readsNumber 1 1 τ1 = some (1, τ2) := s1
      obtain ⟨τ3, f3, o3, c1, c2⟩ := M_n1 (k := 2) ((h.ft f1).ft f2) hb hd hN (by omega) (show i + 1 + 1 < 1000 by omega) s2
      rw [scan_st q2.1 q2.2, s1, pb2, if_neg (by decide)]
      by_cases q3 : i + 1 + 1 < N ∧ isd (c (i + 1 + 1)) = true
      · obtain ⟨t1, t2, t3⟩ := c1 q3
        have t1 : fX6_readsNumber 2 1 τ2 = some (1, τ3) := t1
        obtain ⟨τ4, g1, g2, g3, g4⟩ := M_sc (((h.ft f1).ft f2).ft f3) hb hd hN (show i + 1 + 1 + 1 < 1000 by omega) t2
        rw [scan_st q3.1 q3.2, t1, pb2, if_neg (by decide), fX6_readsStatement_b110]
        refine ⟨τ4, ((f1.tr f2).tr f3).tr g1, g2, g3, fun _ => ⟨?_, ?_, ?_⟩⟩
        · rw [g4, o3 0 (by omega), o2 0 (by omega)]; exact r3
        · rw [g4, o3 1 (by omega)]; exact s3
        · rw [g4]; exact t3
      · obtain ⟨t1, t2⟩ := c2 q3
        have t1 : fX6_readsNumber 2 1 τ2 = some (0, τ3) := t1
        rw [scan_sf q3, t1, pb2, if_pos rfl]
        exact ⟨τ3, (f1.tr f2).tr f3, b109_0 τ3, t2, fun z => by cases z⟩
    · obtain ⟨s1, s2⟩ := b2 q2
      have s1 : fX6_readsNumber 1 1 τ1 = some (0, τ2) := s1
      rw [scan_sf q2, s1, pb2, if_pos rfl]
      exact ⟨τ2, f1.tr f2, b109_0 τ2, s2, fun z => by cases z⟩
  · obtain ⟨r1, r2⟩ := a2 q
    have r1 : fX6_readsNumber 0 1 τ = some (0, τ1) := r1
    rw [scan_sf q, r1, pb2, if_pos rfl]
    exact ⟨τ1, f1, b109_0 τ1, r2, fun z => by cases z⟩
theorem M_seqw {τ : nS} {d N i : Nat} {c : Nat → Int32} (h : TX τ d N c) (hb : bts c) (hd : d < 8) (hN : N ≤ 100) (hi : i < 900) (e : τ 63 5 = nI i) :
    ∃ τ', FT τ τ' ∧ (nb2 (fX6_readsNumber 0 2 τ) fun r t => fX6_readsStatement_b163 r t) = some (bi (scan c N 2 i).1, τ') ∧ τ' 63 5 = nI (scan c N 2 i).2 ∧ ((scan c N 2 i).1 = true → τ' 68 0 = (10 : Int32) * (c i - 48) + (c (i + 1) - 48)) := by
  obtain ⟨τ1, f1, a1, a2, a3⟩ := M_n2 h hb hd hN hi e
  by_cases q : i < N ∧ isd (c i) = true
  · rw [scan_st q.1 q.2]
    by_cases q2 : i + 1 < N ∧ isd (c (i + 1)) = true
    · obtain ⟨r1, r2, r3⟩ := a3 q q2
      obtain ⟨τ2, g1, g2, g3, g4⟩ := M_sc (h.ft f1) hb hd hN (show i + 2 < 1000 by omega) r2
      rw [scan_st q2.1 q2.2, r1, pb2]
      exact ⟨τ2, f1.tr g1, g2, g3, fun _ => by rw [g4]; exact r3⟩
    · obtain ⟨r1, r2⟩ := a2 q q2
      rw [scan_sf q2, r1, pb2]
      exact ⟨τ1, f1, b163_0 τ1, r2, fun z => by cases z⟩
  · obtain ⟨r1, r2⟩ := a1 q
    rw [scan_sf q, r1, pb2]
    exact ⟨τ1, f1, b163_0 τ1, r2, fun z => by cases z⟩
def NB (c : Nat → Int32) (q : Nat) (n : Nat → Int32) : Prop := (c q = 119 → n 0 = (10 : Int32) * (c (q + 1) - 48) + (c (q + 2) - 48)) ∧ (¬ c q = 119 → n 0 = c (q + 1) - 48) ∧ ((c q = 103 ∨ c q = 108 ∨ c q = 115) → n 1 = c (q + 2) - 48) ∧ (c q = 103 → n 2 = c (q + 3) - 48)
theorem M_reads {τ : nS} {d N q : Nat} {c : Nat → Int32} (h : TX τ d N c) (hb : bts c) (hd : d < 8) (hN : N ≤ 100) (hq : q < 800) (e : τ 63 5 = nI q) : ∃ τ', FT τ τ' ∧ fX6_readsStatement τ = some (bi (stm c N q).1, τ') ∧ τ' 63 5 = nI (stm c N q).2 ∧ ((stm c N q).1 = true → NB c q (τ' 68)) := by
  have hp := h.ft (plc_ft τ (q + 1))
  have ep := plc_5 τ (q + 1)
  have eback : nU (plc τ (q + 1)) 63 (upd ((plc τ (q + 1)) 63) 5 ((plc τ (q + 1)) 63 5 - (1 : Int32))) = plc (plc τ (q + 1)) q := by
    rw [ep, pdec]; rfl
  have eplc : nU τ 63 (upd (τ 63) 5 (nI q + (1 : Int32))) = plc τ (q + 1) := by rw [pinc]; rfl
  rw [fX6_readsStatement, M_here h hd hN (by omega) e, pb, pnl, e, eplc]
  by_cases k : q < N
  · rw [if_pos k]
    obtain ⟨y1, y2, y3, y4, y5, -⟩ := byte_of (hb q (by omega))
    by_cases c1 : c q = 103
    · have ef : fdg (c q) = 3 := by rw [c1]; decide
      obtain ⟨τ', f1, r1, r2, r3⟩ := M_seq3 hp hb hd hN (show q + 1 < 900 by omega) ep
      rw [if_pos (y1.mpr c1), r1, stm_t k (by rw [ef]; omega), ef]
      refine ⟨τ', (plc_ft τ (q + 1)).tr f1, rfl, r2, fun z => ?_⟩
      obtain ⟨n0, n1, n2⟩ := r3 z
      exact ⟨fun w => by rw [c1] at w; exact absurd w (by decide), fun _ => n0, fun _ => n1, fun _ => n2⟩
    rw [if_neg (fun z => c1 (y1.mp z))]
    by_cases c2 : c q = 108
    · have ef : fdg (c q) = 2 := by rw [c2]; decide
      obtain ⟨τ', f1, r1, r2, r3⟩ := M_seq2 hp hb hd hN (show q + 1 < 900 by omega) ep
      rw [if_pos (y2.mpr c2), r1, stm_t k (by rw [ef]; omega), ef]
      refine ⟨τ', (plc_ft τ (q + 1)).tr f1, rfl, r2, fun z => ?_⟩
      obtain ⟨n0, n1⟩ := r3 z
      exact ⟨fun w => by rw [c2] at w; exact absurd w (by decide), fun _ => n0, fun _ => n1, fun w => absurd w c1⟩
    rw [if_neg (fun z => c2 (y2.mp z))]
    by_cases c3 : c q = 112
    · have ef : fdg (c q) = 1 := by rw [c3]; decide
      obtain ⟨τ', f1, r1, r2, r3⟩ := M_seq1 hp hb hd hN (show q + 1 < 900 by omega) ep
      rw [if_pos (y3.mpr c3), r1, stm_t k (by rw [ef]; omega), ef]
      refine ⟨τ', (plc_ft τ (q + 1)).tr f1, rfl, r2, fun z => ?_⟩
      exact ⟨fun w => by rw [c3] at w; exact absurd w (by decide), fun _ => r3 z, fun w => by
        rcases w with w | w | w
        · exact absurd w c1
        · exact absurd w c2
        · rw [c3] at w; exact absurd w (by decide), fun w => absurd w c1⟩
    rw [if_neg (fun z => c3 (y3.mp z))]
    by_cases c4 : c q = 115
    · have ef : fdg (c q) = 2 := by rw [c4]; decide
      obtain ⟨τ', f1, r1, r2, r3⟩ := M_seq2 hp hb hd hN (show q + 1 < 900 by omega) ep
      rw [if_pos (y4.mpr c4), r1, stm_t k (by rw [ef]; omega), ef]
      refine ⟨τ', (plc_ft τ (q + 1)).tr f1, rfl, r2, fun z => ?_⟩
      obtain ⟨n0, n1⟩ := r3 z
      exact ⟨fun w => by rw [c4] at w; exact absurd w (by decide), fun _ => n0, fun _ => n1, fun w => absurd w c1⟩
    rw [if_neg (fun z => c4 (y4.mp z))]
    by_cases c5 : c q = 119
    · have ef : fdg (c q) = 2 := by rw [c5]; decide
      obtain ⟨τ', f1, r1, r2, r3⟩ := M_seqw hp hb hd hN (show q + 1 < 900 by omega) ep
      rw [if_pos (y5.mpr c5), r1, stm_t k (by rw [ef]; omega), ef]
      refine ⟨τ', (plc_ft τ (q + 1)).tr f1, rfl, r2, fun z => ?_⟩
      exact ⟨fun _ => r3 z, fun w => absurd c5 w, fun w => by
        rcases w with w | w | w
        · exact absurd w c1
        · exact absurd w c2
        · exact absurd w c4, fun w => absurd w c1⟩
    rw [if_neg (fun z => c5 (y5.mp z)), pnl, eback]
    have ef : fdg (c q) = 0 := by unfold fdg; rw [if_neg c1, if_neg c2, if_neg c3, if_neg c4, if_neg c5]
    rw [stm_f (fun z => by omega)]
    exact ⟨_, (plc_ft τ (q + 1)).tr (plc_ft _ q), rfl, plc_5 _ _, fun z => by cases z⟩
  · rw [if_neg k, if_neg (by decide), if_neg (by decide), if_neg (by decide), if_neg (by decide), if_neg (by decide), pnl, eback, stm_f (fun z => k z.1)]
    exact ⟨_, (plc_ft τ (q + 1)).tr (plc_ft _ q), rfl, plc_5 _ _, fun z => by cases z⟩
