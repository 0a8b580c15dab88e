/-! PURE 44: town, whole -/
theorem row_0 {σ : nS} {d : Nat} (I : Inv σ) (hd : d < 8) (e : fX6_wrongRow (nI d) (-1) σ = some 0) : fX6_wrongRow (nI d) 0 σ = if σ 75 d = 0 then some 0 else some (-12) := by
  have hn : nin (nI d) 8 := pnin0 (by omega) hd
  have hs := M_isShelf (nI d) σ
  rw [decide_eq_true hn] at hs
  rw [fX6_wrongRow, hs, pb, if_neg (by decide), if_pos hn, pcd hd, if_pos hn] at e ⊢
  by_cases c0 : σ 72 d = 0
  · rw [if_pos c0] at e; cases e
  · rw [if_neg c0] at e ⊢
    by_cases c2 : σ 72 d = 2
    · rw [if_pos c2, if_neg (by decide), if_pos hn]
    · rw [if_neg c2] at e; cases e
theorem row_v {σ : nS} {d : Nat} {v : Int32} (hd : d < 8) (hv : ¬ v = 0) (e : fX6_wrongRow (nI d) (-1) σ = some v) : fX6_wrongRow (nI d) 0 σ = some v := by
  have hn : nin (nI d) 8 := pnin0 (by omega) hd
  have hs := M_isShelf (nI d) σ
  rw [decide_eq_true hn] at hs
  rw [fX6_wrongRow, hs, pb, if_neg (by decide), if_pos hn, pcd hd, if_pos hn] at e ⊢
  by_cases c0 : σ 72 d = 0
  · rw [if_pos c0] at e ⊢; exact e
  · rw [if_neg c0] at e ⊢
    by_cases c2 : σ 72 d = 2
    · rw [if_pos c2, if_pos neg1lt0] at e
      cases e
      exact absurd rfl hv
    · rw [if_neg c2] at e ⊢; exact e
theorem S_town {σ : nS} (I : Inv σ) (x : Int32) : See σ (fX5_town x) (fX6_town x) := by
  simp only [See, fX5_town, C_isShelf, pb]
  cases h : decide (nin x 8) with
  | false =>
    refine ⟨-1, σ, σ, by simp only [bif0, if_true], ?_, I⟩
    rw [fX6_town, row_no h, pb]; simp
  | true =>
    obtain ⟨d, hd, rfl⟩ := gtn h (by omega)
    obtain ⟨N, hv⟩ := I.rv hd
    have hsh := I.2.2.2 d hd
    simp only [bit0, if_false, if_pos (pnd hd), pcd hd]
    rcases row_case I hd with ⟨e, e1, e2⟩ | ⟨v, hv0, e1, e2⟩
    · rw [e1, pb]
      simp only [if_true]
      have hr0 := row_0 I hd e2
      have e3 : σ (29 + 2 * d) 3 = σ 75 d := hv.2.2.2.1
      rw [e3]
      by_cases c0 : σ 75 d = 0
      · rw [if_pos c0]
        rw [if_pos c0] at hr0
        obtain ⟨hN, v4, v76, -, -, vc⟩ := hv
        have hb : bts (fun i => σ 77 (100 * d + i)) := fun i hi => hsh.2.2.2.2.2.2.2.2 c0 i hi
        generalize hcc : (fun i => σ 77 (100 * d + i)) = c at hb
        have ec : ∀ i, σ 77 (100 * d + i) = c i := fun i => by rw [← hcc]
        have hTK : TK σ (29 + 2 * d) N c := ⟨v4, fun j hj => by rw [vc j hj]; exact ec j⟩
        -- the reference's start
        have M0 : ∀ υ : nS, (∀ j, 18 < j → υ j = σ j) → ∃ κ, TX κ d N c ∧ κ 63 5 = nI 0 ∧ κ 64 = σ 64 ∧ (∀ j, j ≠ 63 → κ j = υ j) ∧ κ 63 4 = σ 63 4 ∧ fX6_town (nI d) υ = fX6_town_b41 4096 (nI 0) 0 κ := by
          intro υ hu
          refine ⟨nU υ 63 (upd (upd (upd (υ 63) 6 ((100 : Int32) * nI d)) 7 (nI N)) 5 0), ⟨?_, ?_, fun i hi => ?_⟩, ?_, ?_, fun j hj => nU_n _ _ hj, ?_, ?_⟩
          · rw [nU_s, upd_n _ _ (by omega), upd_s]
          · rw [nU_s, upd_n _ _ (by omega), upd_n _ _ (by omega), upd_s, pl100, pmul]
          · rw [nU_n _ _ (by omega), hu 77 (by omega)]; exact ec i
          · rw [nU_s, upd_s]; rfl
          · rw [nU_n _ _ (by omega), hu 64 (by omega)]
          · rw [nU_s, upd_n _ _ (by omega), upd_n _ _ (by omega), upd_n _ _ (by omega), hu 63 (by omega)]
          · rw [fX6_town, row_frame (σ := σ) (hu 72 (by omega)) (hu 75 (by omega)), hr0, pb, if_pos rfl, pnl, if_pos (pnd hd), pcd hd, pnl, pnl]
            have e76 : (nU υ 63 (upd (υ 63) 6 ((100 : Int32) * nI d))) 76 d = nI N := by rw [nU_n _ _ (by omega), hu 76 (by omega)]; exact v76
            rw [e76]
            simp only [nU_s, nUU]
            rfl
        -- what stays after a fault
        have Fin : ∀ υ κ' : nS, Fr 10 σ υ → (∀ j, j ≠ 63 → j ≠ 64 → j ≠ 67 → j ≠ 68 → κ' j = υ j) → κ' 63 4 = σ 63 4 → (∀ j, j < 74 → κ' 64 j = σ 64 j) → Inv κ' := by
          intro υ κ' f1 f2 f3 f4
          obtain ⟨G, P, L, w, hw, hc, h3, h4, hG, hP, hL⟩ := I.1.get
          refine I.town ⟨G, P, L, w, hw.congr f4, (hc.congr hG hP hL f4).frame (fun j j1 j2 => ?_), by rw [f4 3 (by omega)]; exact h3, h4⟩ (fun j j1 j2 j3 => ?_) ?_ f3
          · rw [f2 j (by omega) (by omega) (by omega) (by omega)]; exact f1 j (by omega)
          · unfold core at j1
            rw [f2 j (by omega) (by omega) (by omega) (by omega)]; exact f1 j (by omega)
          · rw [f2 0 (by omega) (by omega) (by omega) (by omega), f1 0 (by omega)]
        -- a fault of the form
        have Bad : ∀ i, i ≤ 100 → fX5_badPlace (29 + 2 * d) σ = some (nI i) → (∀ κ : nS, TX κ d N c → κ 63 5 = nI 0 → ∃ τ', fX6_town_b41 4096 (nI 0) 0 κ = some ((-1000 : Int32) - nI i, τ') ∧ τ' 64 = κ 64 ∧ FU κ τ') →
            ∃ r τ υ, ((fX5_badPlace (29 + 2 * d) σ).bind fun r19 => if r19 < 0 then nb2 (fX4_become 10 1 σ) fun r21 t22 => fX5_town_b78 4096 (29 + 2 * d) 0 0 t22 else some ((-1000 : Int32) - r19, σ)) = some (r, τ) ∧ fX6_town (nI d) τ = some (r, υ) ∧ Inv υ := by
          intro i hi hbp hM
          obtain ⟨κ, k1, k2, k3, k4, k5, k6⟩ := M0 σ (fun _ _ => rfl)
          obtain ⟨τ', m1, m2, m3⟩ := hM κ k1 k2
          refine ⟨(-1000 : Int32) - nI i, σ, τ', ?_, ?_, ?_⟩
          · rw [hbp, pb, if_neg (by rw [pneg (by omega)]; simp)]
          · rw [k6, m1]
          · refine Fin σ τ' Fr.rf (fun j a b c d => by rw [m3.1 j a b c d]; exact k4 j a) ?_ (fun j _ => by rw [m2, k3])
            rw [m3.2 4 (by omega)]; exact k5
        by_cases hN0 : N = 0
        · subst hN0
          refine Bad 0 (by omega) ?_ (fun κ k1 k2 => ?_)
          · rw [fX5_badPlace, v4, if_pos pl0.symm]; rfl
          · exact M_fail1 (n := 4095) k1 hb hd hN (by omega) k2 (by omega) (stm_f (fun z => by omega))
        · have hbp0 : fX5_badPlace (29 + 2 * d) σ = fX5_badPlace_b11 4096 (29 + 2 * d) (nI 0) σ := by
            rw [fX5_badPlace, v4, if_neg (by rw [pl0, peq (by omega) (by omega)]; exact hN0)]; rfl
          obtain ⟨B1, B2⟩ := C_badPlace hN v4 hTK.2
          obtain ⟨P1, P2⟩ := M_ph1 (c := c) hb hd hN
          rcases good_bad (c := c) (N := N) N 0 (by omega) (by omega) with ⟨K, hK, hg⟩ | ⟨K, i, hK, hi, hg⟩
          · match K, hg, hK with
            | 0, hg, _ => exact absurd (show (0 : Nat) = N from hg).symm hN0
            | K + 1, hg, hK =>
              obtain ⟨G, P, L, w, hw, hc, h3, h4, hG, hP, hL⟩ := I.1.get
              rw [hbp0, B1 (K + 1) 4096 0 hg (by omega), pb, if_pos (by decide)]
              obtain ⟨τ0, b1, b2, b3⟩ := C_become (k0 := 10) hc hw (by omega)
              have hT0 := hTK.fr b3 (by omega)
              rw [b1, pb2, pl0]
              have hrun : ∀ υ : nS, (∀ j, 18 < j → υ j = σ j) → ∃ κ, κ 64 = σ 64 ∧ TX κ d N c ∧ κ 63 5 = nI 0 ∧ (∀ j, j < 74 → κ 67 j = σ 64 j) ∧ (∀ j, j ≠ 63 → j ≠ 64 → j ≠ 67 → j ≠ 68 → κ j = υ j) ∧ κ 63 4 = σ 63 4 ∧ fX6_town (nI d) υ = fX6_town_b93 4096 (nI (0 + (K + 1))) 0 κ := by
                intro υ hu
                obtain ⟨κ, k1, k2, k3, k4, k5, k6⟩ := M0 υ hu
                obtain ⟨κ1, f1, r1⟩ := P1 K 0 4096 0 κ hg (by omega) k1 k2
                have e64 : κ1 64 = σ 64 := by rw [f1.1 64 (by omega) (by omega)]; exact k3
                refine ⟨b77S κ1, ?_, (k1.ft f1).fu (b77S_fu κ1), plc_5 _ _, fun j hj => ?_, fun j a b c' d' => ?_, ?_, ?_⟩
                · rw [b77S_64, e64]
                · rw [b77S_67, cpR_e _ _ _ hj, e64]
                · rw [(b77S_fu κ1).1 j a b c' d', f1.1 j a d', k4 j a]
                · rw [(b77S_fu κ1).2 4 (by omega), f1.2 4 (by omega)]; exact k5
                · rw [k6, r1, M_b77]
              rcases town_sync (A := nI (0 + (K + 1))) (k := 29 + 2 * d) hb hd hN (by omega) (K + 1) 0 4096 0 τ0 (σ 64) G P L w hg (by omega) (by omega) hT0 b2 hw h3 h4 with ⟨τ1, r', G', P', L', w', t1, t2, t3, t4, t5, t6, t7⟩ | ⟨qf, τ1, t1, t2, t7⟩
              · obtain ⟨τ2, u1, u2, u3⟩ := C_become (k0 := 1) t3 t4 (by omega)
                have fr2 : ∀ j, 18 < j → τ2 j = σ j := fun j hj => by rw [u3 j (by omega), t2 j (by omega), b3 j (by omega)]
                obtain ⟨κ, k1, k2, k3, k4, k5, k6, k7⟩ := hrun τ2 fr2
                obtain ⟨κ', m1, m2, m3, m4⟩ := t7 4096 κ (by omega) k1 k2 k3
                refine ⟨_, τ2, κ', by rw [t1, u1, pb2], by rw [k7, m1], I.town ⟨G', P', L', w', ?_, ?_, ?_, t6⟩ (fun j j1 j2 j3 => ?_) ?_ ?_⟩
                · rw [m2]; exact t4
                · rw [m2]; exact u2.frame (fun j j1 j2 => by rw [m3.1 j (by omega) (by omega) (by omega) (by omega), k5 j (by omega) (by omega) (by omega) (by omega)])
                · rw [m2]; exact t5
                · unfold core at j1
                  rw [m3.1 j (by omega) (by omega) (by omega) (by omega), k5 j (by omega) (by omega) (by omega) (by omega)]
                  exact fr2 j (by omega)
                · rw [m3.1 0 (by omega) (by omega) (by omega) (by omega), k5 0 (by omega) (by omega) (by omega) (by omega), u3 0 (by omega), t2 0 (by omega), b3 0 (by omega)]
                · rw [m3.2 4 (by omega)]; exact k6
              · have f1 := b3.tr t2
                obtain ⟨κ, k1, k2, k3, k4, k5, k6, k7⟩ := hrun τ1 (fun j hj => f1 j (by omega))
                obtain ⟨κ', m1, m2, m3⟩ := t7 4096 κ (by omega) k1 k2 k3
                refine ⟨_, τ1, κ', t1, by rw [k7, m1], Fin τ1 κ' f1 (fun j a b c' d' => by rw [m3.1 j a b c' d']; exact k5 j a b c' d') (by rw [m3.2 4 (by omega)]; exact k6) (fun j hj => by rw [m2 j hj]; exact k4 j hj)⟩
          · refine Bad i (by omega) ?_ (fun κ k1 k2 => P2 i K 0 4096 0 κ (by omega) hg (by omega) k1 k2)
            rw [hbp0]
            exact B2 i K 4096 0 hg (by omega)
      · rw [if_neg c0]
        rw [if_neg c0] at hr0
        refine ⟨-12, σ, σ, rfl, ?_, I⟩
        rw [fX6_town, hr0, pb, if_neg (by decide)]
    · rw [e1, pb]
      simp only [hv0, if_false]
      refine ⟨v, σ, σ, rfl, ?_, I⟩
      rw [fX6_town, row_v hd hv0 e2, pb, if_neg hv0]
