/-! PURE 28: chain, climb -/
theorem M_chain71 {σ : nS} {G P L p x y m : Nat} (hw : WF (σ 64) G P L) (hp : p < P) (hx : x < G) (hy : y < G) : fX6_chain_b71 4096 (nI p) (nI x) (nI y) (nI (m + 1)) (nI 0) σ = some (enc (fs (fun a => would (σ 64) p x a && decide (enc (stp (would (σ 64) p) G a y) = nI m)) G)) := by
  have hG := hw.1
  have hP := hw.2.1
  generalize hf : (fun a => would (σ 64) p x a && decide (enc (stp (would (σ 64) p) G a y) = nI m)) = f
  have ef : ∀ a, f a = (would (σ 64) p x a && decide (enc (stp (would (σ 64) p) G a y) = nI m)) := fun a => by rw [← hf]
  have st : ∀ n a, a < G → fX6_chain_b71 (n + 1) (nI p) (nI x) (nI y) (nI (m + 1)) (nI a) σ = if f a = true then some (nI a) else fX6_chain_b71 n (nI p) (nI x) (nI y) (nI (m + 1)) (nI (a + 1)) σ := by
    intro n a ha
    have c' : ¬ nI G ≤ nI a := by rw [ple (by omega) (by omega)]; omega
    have k1 := (hw.2.2.2.2.2.2.1 x hx).1
    have k2 := (hw.2.2.2.2.2.2.1 a ha).1
    rw [fX6_chain_b71]
    simp only [pk0, if_true, tc0, hw.2.2.2.1, if_neg c']
    rw [M_wouldIn (show p < 6 by omega) (show x < 8 by omega) (show a < 8 by omega) k1 k2, pb, ef a]
    cases would (σ 64) p x a with
    | false => rw [if_pos bi_f, pnl, pinc]; simp only [Bool.false_and, Bool.false_eq_true, if_false]
    | true =>
      rw [if_neg (by decide), M_stepsOf hw hp ha hy, pb, pdec]
      by_cases c : enc (stp (would (σ 64) p) G a y) = nI m
      · rw [if_pos c, decide_eq_true c]; rfl
      · rw [if_neg c, decide_eq_false c, pnl, pinc]; simp only [Bool.and_false, Bool.false_eq_true, if_false]
  cases e : fs f G with
  | none =>
    exact ploop (fun n a => fX6_chain_b71 n (nI p) (nI x) (nI y) (nI (m + 1)) (nI a) σ) (some (-4)) G
      (fun n => by
        have c' : nI G ≤ nI G := by rw [ple (by omega) (by omega)]; omega
        rw [fX6_chain_b71]
        simp only [pk0, if_true, tc0, hw.2.2.2.1, if_pos c'])
      (fun n a ha => by rw [st n a ha, fs_none e a ha]; rfl) 4096 0 (by omega) (by omega)
  | some k =>
    obtain ⟨a1, a2, a3⟩ := fs_some e
    exact ploop (fun n a => fX6_chain_b71 n (nI p) (nI x) (nI y) (nI (m + 1)) (nI a) σ) (some (nI k)) k
      (fun n => by rw [st n k a1, a2]; rfl)
      (fun n a ha => by rw [st n a (by omega), a3 a ha]; rfl) 4096 0 (by omega) (by omega)
theorem Inv.steps {σ τ : nS} (I : Inv σ) (f : Fk σ τ) : Inv τ :=
  I.frame (fun j hj => f j (by unfold core at hj; omega)) (by rw [f 0 (by omega)]) (by rw [f 63 (by omega)])
theorem S_chain {σ : nS} (I : Inv σ) (x y z u : Int32) : Sef σ (fX5_chain x y z u) (fX6_chain x y z u) := by
  obtain ⟨G, P, L, w, hw, hc, h3, h4, hG, hP, hL⟩ := I.1.get
  have mP : ∀ τ : nS, τ 64 = σ 64 → fX6_isPerson x τ = some (bi (decide (nin x P))) := fun τ e => M_isPerson x (by rw [e]; exact hw.2.2.2.2.1) (show P ≤ 8 by omega)
  have mG : ∀ (v : Int32) (τ : nS), τ 64 = σ 64 → fX6_isGood v τ = some (bi (decide (nin v G))) := fun v τ e => M_isGood v (by rw [e]; exact hw.2.2.2.1) hG
  simp only [Sef, fX5_chain, fX6_chain, C_isPerson x hc.2.1 (show P ≤ 8 by omega), C_isGoods y hc.1 hG, C_isGoods z hc.1 hG, pb, M_isIn1]
  cases h : decide (nin x P) with
  | false => simp only [bif0, if_true]; exact ⟨_, _, rfl, by rw [mP σ rfl, h, pb]; simp only [bif0, if_true], I⟩
  | true =>
    simp only [bit0, if_false]
    cases h2 : decide (nin y G) with
    | false =>
      simp only [bif0, if_true]
      exact ⟨_, _, rfl, by rw [mP σ rfl, h, pb, mG y σ rfl, h2, pb]; simp only [bif0, bit0, if_true, if_false], I⟩
    | true =>
      simp only [bit0, if_false]
      cases h3 : decide (nin z G) with
      | false =>
        simp only [bif0, if_true]
        exact ⟨_, _, rfl, by rw [mP σ rfl, h, pb, mG y σ rfl, h2, pb, mG z σ rfl, h3, pb]; simp only [bif0, bit0, if_true, if_false], I⟩
      | true =>
        simp only [bit0, if_false]
        cases h6 : decide (nin u 2) with
        | false =>
          have hm : ((fX6_isPerson x σ).bind fun r9 => if r9 = 0 then some (-1 : Int32) else (fX6_isGood y σ).bind fun r11 => if r11 = 0 then some (-1 : Int32) else (fX6_isGood z σ).bind fun r13 => if r13 = 0 then some (-1 : Int32) else if bi false = 0 then some (-1 : Int32) else (fX6_stepsOf x y z σ).bind fun r17 => if u = 0 then fX6_chain_b55 u r17 σ else if 0 < r17 then fX6_chain_b71 4096 x y z r17 (0 : Int32) σ else fX6_chain_b55 u r17 σ) = some (-1) := by
            rw [mP σ rfl, h, pb, mG y σ rfl, h2, pb, mG z σ rfl, h3, pb]; simp only [bif0, bit0, if_true, if_false]
          rcases gfb h6 with e | ⟨e, e'⟩
          · simp only [e, if_true]; exact ⟨_, _, rfl, hm, I⟩
          · simp only [e, e', if_false]; exact ⟨_, _, rfl, hm, I⟩
        | true =>
          have q1 := h
          have q2 := h2
          have q3 := h3
          obtain ⟨p, hp, rfl⟩ := gtn h (by omega)
          obtain ⟨a, ha, rfl⟩ := gtn h2 (by omega)
          obtain ⟨b, hb, rfl⟩ := gtn h3 (by omega)
          have z1 : (u < 0) = False := by rcases gt2 h6 with rfl | rfl <;> simp <;> decide
          have z2 : (u ≤ 1) = True := by rcases gt2 h6 with rfl | rfl <;> simp <;> decide
          obtain ⟨τ, c1, c2, c3⟩ := C_look hc hw hp
          obtain ⟨υ, d1, d2, d3, d4⟩ := C_countTo c2 hG hb
          have f : Fk σ υ := fun j hj => (d4 j hj).trans (c3 j hj)
          have e64 : υ 64 = σ 64 := f 64 (by omega)
          have hw' : WF (υ 64) G P L := by rw [e64]; exact hw
          simp only [z1, z2, if_false, if_true, c1, pb2, d1, bit0]
          have hm : ∀ v, (if u = 0 then fX6_chain_b55 u (enc (stp (would (σ 64) p) G a b)) υ else if 0 < enc (stp (would (σ 64) p) G a b) then fX6_chain_b71 4096 (nI p) (nI a) (nI b) (enc (stp (would (σ 64) p) G a b)) (0 : Int32) υ else fX6_chain_b55 u (enc (stp (would (σ 64) p) G a b)) υ) = some v →
            ((fX6_isPerson (nI p) υ).bind fun r9 => if r9 = 0 then some (-1 : Int32) else (fX6_isGood (nI a) υ).bind fun r11 => if r11 = 0 then some (-1 : Int32) else (fX6_isGood (nI b) υ).bind fun r13 => if r13 = 0 then some (-1 : Int32) else (fX6_stepsOf (nI p) (nI a) (nI b) υ).bind fun r17 => if u = 0 then fX6_chain_b55 u r17 υ else if 0 < r17 then fX6_chain_b71 4096 (nI p) (nI a) (nI b) r17 (0 : Int32) υ else fX6_chain_b55 u r17 υ) = some v := by
            intro v hv
            rw [mP υ e64, q1, pb, mG _ υ e64, q2, pb, mG _ υ e64, q3, pb, M_stepsOf hw' hp ha hb, pb, e64]
            simp only [bit0, if_false]
            exact hv
          rcases gt2 h6 with rfl | rfl
          · simp only [if_true, if_pos (pnd (show a < 8 by omega)), pcd (show a < 8 by omega), d3 a ha]
            refine ⟨_, υ, rfl, hm _ ?_, I.steps f⟩
            rw [if_pos rfl, fX6_chain_b55, if_pos rfl]
          · simp only [show ¬ (1 : Int32) = 0 by decide, if_false]
            rw [fX3_firstFrom, if_pos (pnd (show a < 8 by omega)), pcd (show a < 8 by omega), d3 a ha]
            simp only [show ¬ (1 : Int32) = 0 by decide, if_false] at hm
            cases e : stp (would (σ 64) p) G a b with
            | none =>
              rw [e] at hm
              simp only [enc, show (-4 : Int32) ≤ 0 by decide, if_true, pb]
              refine ⟨_, υ, rfl, hm _ ?_, I.steps f⟩
              rw [if_neg (show ¬ (0 : Int32) < enc none by decide), fX6_chain_b55, if_neg (by decide)]
            | some m =>
              rw [e] at hm
              match m with
              | 0 =>
                simp only [enc, show nI 0 ≤ 0 by decide, if_true, pb]
                refine ⟨_, υ, rfl, hm _ ?_, I.steps f⟩
                rw [if_neg (show ¬ (0 : Int32) < enc (some 0) by decide), fX6_chain_b55, if_neg (by decide)]
              | m + 1 =>
                have hm8 := (fs_some e).1
                have n1 : ¬ nI (m + 1) ≤ 0 := by rw [pl0, ple (by omega) (by omega)]; omega
                have n2 : 0 < nI (m + 1) := by rw [pl0, plt (by omega) (by omega)]; omega
                have ee : enc (some (m + 1)) = nI (m + 1) := rfl
                have n1' : ¬ enc (some (m + 1)) ≤ 0 := n1
                have n2' : 0 < enc (some (m + 1)) := n2
                have ef : (fun y => would (σ 64) p a y && decide (υ 47 y = nI m)) = (fun y => would (σ 64) p a y && decide (υ 47 y = nI m)) := rfl
                have eq : fs (fun i => would (σ 64) p a i && decide (enc (stp (would (σ 64) p) G i b) = nI m)) G = fs (fun y => would (σ 64) p a y && decide (υ 47 y = nI m)) G := fs_congr (fun i hi => by rw [d3 i hi])
                have hd : enc (some (m + 1)) - (1 : Int32) = nI m := pdec
                rw [if_neg n1', if_pos (pnd (show a < 8 by omega)), hd, C_nextWith d2 hG ha, pb, pb]
                refine ⟨_, υ, rfl, hm _ ?_, I.steps f⟩
                rw [if_pos n2', ee, pl0, M_chain71 hw' hp ha hb, e64, eq]
theorem sub_most {v a b : Nat} (hv : v < 1000) (ha : a < 1000) (hb : b < 1000) (σ : nS) : fX6_most (nI v) (nI a - nI b) σ = some (nI (if v ≤ a - b then a - b else v)) := by
  rw [fX6_most]
  by_cases c : b ≤ a
  · rw [pk_sub c]
    have key : (nI v ≤ nI (a - b)) = (v ≤ a - b) := ple (by omega) (by omega)
    by_cases c2 : v ≤ a - b
    · rw [if_pos (by rw [key]; exact c2), if_pos c2]
    · rw [if_neg (by rw [key]; exact c2), if_neg c2]
  · have h1 : (nI a - nI b).toInt = (a : Int) - b := pk_sub_toInt (by omega) (by omega)
    have n1 : ¬ nI v ≤ nI a - nI b := by rw [le_ti, h1, pti (by omega)]; omega
    rw [if_neg n1]
    by_cases c2 : v ≤ a - b
    · rw [if_pos c2]; congr 2; omega
    · rw [if_neg c2]
theorem bst_max {ok : Nat → Bool} {lt : Nat → Nat → Bool} {f : Nat → Nat} : ∀ n, (∀ g b, g < n → b < n → lt g b = decide (f b < f g)) → (∀ i, i < n → ok i = true → ∃ b, bst ok lt n = some b ∧ f i ≤ f b) := by
  intro n
  induction n with
  | zero => intro _ i h; omega
  | succ n ih =>
    intro hlt i hi hk
    have ih := ih (fun g b h1 h2 => hlt g b (by omega) (by omega))
    cases e : bst ok lt n with
    | none =>
      rw [bst_s_none e]
      by_cases c : i = n
      · subst c; exact ⟨i, by rw [hk, if_pos rfl], Nat.le_refl _⟩
      · obtain ⟨b, b1, -⟩ := ih i (by omega) hk
        rw [e] at b1; cases b1
    | some b =>
      rw [bst_s_some e]
      have hb := bst_ok ok lt n b e
      have hl := hlt n b (by omega) (by omega)
      by_cases c : i = n
      · subst c
        rw [hk, Bool.true_and, hl]
        by_cases c2 : f b < f i
        · exact ⟨i, by rw [if_pos (by simp [c2])], Nat.le_refl _⟩
        · exact ⟨b, by rw [if_neg (by simp [c2])], by omega⟩
      · obtain ⟨b', b1, b2⟩ := ih i (by omega) hk
        rw [e] at b1; cases b1
        rw [hl]
        by_cases c2 : (ok n && decide (f b < f n)) = true
        · rw [if_pos c2]
          rw [Bool.and_eq_true, decide_eq_true_eq] at c2
          exact ⟨n, rfl, by omega⟩
        · rw [if_neg c2]; exact ⟨b, rfl, b2⟩
