/-! PURE 35: the class's list -/
def RB (τ : nS) (R Bn : Nat → Nat) : Prop := ∀ j, j < 8 → τ 60 j = nI (R j) ∧ R j ≤ j ∧ R (R j) = R j ∧ τ 61 j = nI (Bn j) ∧ Bn j < 256
def LB (F : (Nat → Nat) → Bool) (R Bn : Nat → Nat) : Prop := (∀ g, F g = true → ∀ j, j < 8 → g (R j) = g j) ∧ (∀ g, F g = true → ∀ x y, x < 8 → y < 8 → (Bn x).testBit y = true → ¬ g x = g y) ∧ (∀ x y, x < 8 → y < 8 → (Bn x).testBit y = true → (Bn y).testBit x = true ∧ R x = x ∧ R y = y) ∧ (∀ g, (∀ j, j < 8 → g j = g (R j)) → (∀ x y, x < 8 → y < 8 → (Bn x).testBit y = true → ¬ g x = g y) → F g = true) ∧ ∀ x, x < 8 → (Bn x).testBit x = false
theorem C_has {σ : nS} {u g : Nat} (hu : u < 256) (hg : g < 8) : fX5_has (nI u) (nI g) σ = some (bi (u.testBit g)) := by
  rw [fX5_has, phas0 _ hu g hg]
  cases u.testBit g <;> rfl
theorem anyb_f {f : Nat → Bool} {n : Nat} (h : ∀ i, i < n → f i = false) : anyb f n = false := by
  cases e : anyb f n with
  | false => rfl
  | true =>
    obtain ⟨i, h1, h2⟩ := (anyb_iff f n).mp e
    rw [h i h1] at h2; cases h2
theorem C_isBarred {τ : nS} {R Bn f : Nat → Nat} {k c : Nat} (hR : RB τ R Bn) (hk : k < 8) (hc : c < 100) (hf : ∀ j, j < k → τ 62 j = nI (f j)) (hf2 : ∀ j, f j < 100) : fX2_isBarred (nI k) (nI c) τ = some (bi (anyb (fun j => (Bn k).testBit j && decide (f j = c)) k)) := by
  obtain ⟨-, -, -, e61, b61⟩ := hR k hk
  rw [fX2_isBarred]
  generalize hg : (fun j => (Bn k).testBit j && decide (f j = c)) = g
  have eg : ∀ j, g j = ((Bn k).testBit j && decide (f j = c)) := fun j => by rw [← hg]
  have st : ∀ n j, j < k → fX2_isBarred_b2 (n + 1) (nI k) (nI c) (nI j) τ = if g j = true then some 1 else fX2_isBarred_b2 n (nI k) (nI c) (nI (j + 1)) τ := by
    intro n j hj
    have c' : ¬ nI k ≤ nI j := by rw [ple (by omega) (by omega)]; omega
    have h1 := hf2 j
    have l1 : (nI (f j) = nI c) = (f j = c) := peq (by omega) (by omega)
    rw [fX2_isBarred_b2, if_neg c', if_pos (pnd hk), pcd hk, e61, C_has b61 (show j < 8 by omega), pb, eg]
    cases (Bn k).testBit j with
    | false => rw [if_pos bi_f, pnl, pinc]; simp only [Bool.false_and, Bool.false_eq_true, if_false]
    | true =>
      rw [if_neg (by decide), if_pos (pnd (by omega)), pcd (by omega), hf j hj]
      by_cases q : f j = c
      · rw [if_pos (by rw [l1]; exact q), decide_eq_true q]; rfl
      · rw [if_neg (by rw [l1]; exact q), decide_eq_false q, pnl, pinc]; rfl
  rcases fstbad (fun j => g j = false) k with hA | ⟨m, hm, hbad, hA⟩
  · rw [anyb_f hA]
    exact ploop (fun n j => fX2_isBarred_b2 n (nI k) (nI c) (nI j) τ) (some (bi false)) k
      (fun n => by rw [fX2_isBarred_b2, if_pos (by rw [ple (by omega) (by omega)]; omega)]; rfl)
      (fun n j hj => by rw [st n j hj, hA j hj]; rfl) 4096 0 (by omega) (by omega)
  · have hbad : g m = true := by cases q : g m with | true => rfl | false => exact absurd q hbad
    rw [(anyb_iff g k).mpr ⟨m, hm, hbad⟩]
    exact ploop (fun n j => fX2_isBarred_b2 n (nI k) (nI c) (nI j) τ) (some (bi true)) m
      (fun n => by rw [st n m hm, hbad]; rfl)
      (fun n j hj => by rw [st n j (by omega), hA j hj]; rfl) 4096 0 (by omega) (by omega)
theorem RB.frame {τ υ : nS} {R Bn : Nat → Nat} (h : RB τ R Bn) (e : ∀ j, j ≠ 62 → υ j = τ j) : RB υ R Bn := by
  unfold RB at h ⊢
  rw [e 60 (by omega), e 61 (by omega)]; exact h
theorem C_classify {F : (Nat → Nat) → Bool} {R Bn : Nat → Nat} {most : Nat} (hL : LB F R Bn) (hmost : most ≤ 8) : ∀ r d k m (f : Nat → Nat) (τ : nS), k + r = 8 → r < d → RB τ R Bn → (∀ j, j < k → τ 62 j = nI (f j)) → (∀ j, f j < 100) → m ≤ k → m ≤ most →
    (∀ j, j < k → f j = f (R j)) → (∀ x y, x < k → y < k → (Bn x).testBit y = true → ¬ f x = f y) → (∀ j, j < k → f j < m) →
    ∃ v υ, fX5_classify d (nI k) (nI m) (nI most) τ = some (v, υ) ∧ n01 v ∧ (∀ g, sol F (fun _ => true) most r m f = some g → v = 1 ∧ ∀ j, j < 8 → υ 62 j = nI (g j)) ∧ (sol F (fun _ => true) most r m f = none → v = 0) ∧ (∀ j, j < k → υ 62 j = τ 62 j) ∧ ∀ j, j ≠ 62 → υ j = τ j := by
  obtain ⟨L1, L2, L3, L4, L5⟩ := hL
  intro r
  induction r with
  | zero =>
    intro d k m f τ h1 h2 hR hf hf2 hm hmm I1 I2 I3
    match d, h2 with
    | d + 1, _ =>
      obtain rfl : k = 8 := by omega
      have hF : F f = true := L4 f I1 I2
      rw [fX5_classify, fX5_classify_e, if_neg (by decide), sol, hF]
      refine ⟨1, τ, rfl, Or.inr rfl, fun g hg => ⟨rfl, fun j hj => ?_⟩, fun hg => (by cases hg), fun _ _ => rfl, fun _ _ => rfl⟩
      cases hg; exact hf j hj
  | succ r ih =>
    intro d k m f τ h1 h2 hR hf hf2 hm hmm I1 I2 I3
    match d, h2 with
    | d + 1, h2 =>
      have hk : k = 7 - r := by omega
      have hk8 : nI k < 8 := by rw [pl8, plt (by omega) (by omega)]; omega
      obtain ⟨e60, r1, r2, -, -⟩ := hR k (by omega)
      rw [fX5_classify, fX5_classify_e, if_pos hk8, if_pos (pnd (by omega)), pcd (by omega), e60, sol_s, ← hk]
      generalize hh : (fun c => sol F (fun _ => true) most r (if c = m then m + 1 else m) (updN f k c)) = h
      have eh : ∀ c, h c = sol F (fun _ => true) most r (if c = m then m + 1 else m) (updN f k c) := fun c => by rw [← hh]
      by_cases root : k ≤ R k
      · have hroot : R k = k := by omega
        rw [if_pos (by rw [ple (by omega) (by omega)]; exact root), pl0]
        have main : ∀ e N c (τ' : nS), c + e = (if m + 1 ≤ most then m + 1 else most) → e < N → (∀ j, j < k → τ' 62 j = τ 62 j) → (∀ j, j ≠ 62 → τ' j = τ j) →
            ∃ v υ, fX5_classify_b48 (fX5_classify d) N (nI k) (nI m) (nI most) (nI c) τ' = some (v, υ) ∧ n01 v ∧ (∀ g, fsf h c e = some g → v = 1 ∧ ∀ j, j < 8 → υ 62 j = nI (g j)) ∧ (fsf h c e = none → v = 0) ∧ (∀ j, j < k → υ 62 j = τ 62 j) ∧ ∀ j, j ≠ 62 → υ j = τ j := by
          intro e
          induction e with
          | zero =>
            intro N c τ' q1 q2 q3 q4
            match N, q2 with
            | N + 1, _ =>
              have hc9 : c ≤ 9 := by split at q1 <;> omega
              rw [fX5_classify_b48]
              by_cases z : m < c
              · rw [if_pos (by rw [plt (by omega) (by omega)]; exact z)]
                exact ⟨0, τ', rfl, Or.inl rfl, fun g hg => (by cases hg), fun _ => rfl, q3, q4⟩
              · have z2 : most ≤ c := by split at q1 <;> omega
                rw [if_neg (by rw [plt (by omega) (by omega)]; exact z), if_pos (by rw [ple (by omega) (by omega)]; exact z2)]
                exact ⟨0, τ', rfl, Or.inl rfl, fun g hg => (by cases hg), fun _ => rfl, q3, q4⟩
          | succ e ihe =>
            intro N c τ' q1 q2 q3 q4
            match N, q2 with
            | N + 1, q2 =>
              have z1 : c < most := by split at q1 <;> omega
              have z2 : c ≤ m := by split at q1 <;> omega
              have hR' : RB τ' R Bn := hR.frame q4
              have hf' : ∀ j, j < k → τ' 62 j = nI (f j) := fun j hj => by rw [q3 j hj]; exact hf j hj
              rw [fX5_classify_b48, if_neg (by rw [plt (by omega) (by omega)]; omega), if_neg (by rw [ple (by omega) (by omega)]; omega), C_isBarred hR' (by omega) (by omega) hf' hf2, pb, fsf_s]
              cases eb : anyb (fun j => (Bn k).testBit j && decide (f j = c)) k with
              | true =>
                have hnone : h c = none := by
                  rw [eh]
                  refine sol_none _ _ _ (by omega) (fun g hg => ?_)
                  cases q : F g with
                  | false => rfl
                  | true =>
                    obtain ⟨j, j1, j2⟩ := (anyb_iff _ k).mp eb
                    rw [Bool.and_eq_true, decide_eq_true_eq] at j2
                    have y1 := L2 g q k j (by omega) (by omega) j2.1
                    rw [hg k (by omega), hg j (by omega), updN_s, updN_n _ _ (by omega), j2.2] at y1
                    exact absurd rfl y1
                rw [if_neg (by decide), pnl, pinc, hnone]
                exact ihe N (c + 1) τ' (by omega) (by omega) q3 q4
              | false =>
                have nb : ∀ j, j < k → (Bn k).testBit j = true → ¬ f j = c := by
                  intro j hj q q9
                  have : anyb (fun j => (Bn k).testBit j && decide (f j = c)) k = true := (anyb_iff _ k).mpr ⟨j, hj, by rw [q, decide_eq_true q9]; rfl⟩
                  rw [eb] at this; cases this
                have f62 : ∀ j, j < k + 1 → (nU τ' 62 (upd (τ' 62) k (nI c))) 62 j = nI (updN f k c j) := by
                  intro j hj
                  rw [nU_s]
                  by_cases y : j = k
                  · subst y; rw [upd_s, updN_s]
                  · rw [upd_n _ _ y, updN_n _ _ y]; exact hf' j (by omega)
                have fo : ∀ j, j ≠ 62 → (nU τ' 62 (upd (τ' 62) k (nI c))) j = τ j := fun j hj => by rw [nU_n _ _ hj]; exact q4 j hj
                have fk : ∀ j, j < k → (nU τ' 62 (upd (τ' 62) k (nI c))) 62 j = τ 62 j := fun j hj => by rw [nU_s, upd_n _ _ (by omega)]; exact q3 j hj
                have hf2' := updN_lt (k := k) hf2 (show c < 100 by omega)
                obtain ⟨v, υ, a1, a0, a2, a3, a4, a5⟩ := ih d (k + 1) (if c = m then m + 1 else m) (updN f k c) (nU τ' 62 (upd (τ' 62) k (nI c))) (by omega) (by omega) (hR.frame fo) f62 hf2' (by split <;> omega) (by split <;> omega)
                  (fun j hj => by
                    by_cases y : j = k
                    · rw [y, hroot]
                    · obtain ⟨-, s1, -, -, -⟩ := hR j (by omega)
                      rw [updN_n _ _ y, updN_n _ _ (by omega)]; exact I1 j (by omega))
                  (fun x y hx hy hb => by
                    by_cases x1 : x = k
                    · subst x1
                      by_cases y1 : y = x
                      · subst y1; rw [L5 y (by omega)] at hb; cases hb
                      · rw [updN_s, updN_n _ _ y1]
                        exact fun q => nb y (by omega) hb q.symm
                    · by_cases y1 : y = k
                      · subst y1
                        rw [updN_s, updN_n _ _ x1]
                        exact nb x (by omega) (L3 x y (by omega) (by omega) hb).1
                      · rw [updN_n _ _ x1, updN_n _ _ y1]; exact I2 x y (by omega) (by omega) hb)
                  (fun j hj => by
                    by_cases y : j = k
                    · rw [y, updN_s]; split <;> omega
                    · rw [updN_n _ _ y]
                      have := I3 j (by omega)
                      split <;> omega)
                rw [← eh c] at a2 a3
                have ek : ∀ z, fX5_classify_b95 (fX5_classify d) (fX5_classify_b48 (fX5_classify d) N) (nI k) (nI m) (nI most) (nI c) (nI z) (nI k + 1) (nU τ' 62 (upd (τ' 62) k (nI c))) = nb2 (fX5_classify d (nI (k + 1)) (nI z) (nI most) (nU τ' 62 (upd (τ' 62) k (nI c)))) fun r2 t3 => if r2 = 0 then fX5_classify_b48 (fX5_classify d) N (nI k) (nI m) (nI most) (nI (c + 1)) t3 else some ((1 : Int32), t3) := by
                  intro z
                  rw [fX5_classify_b95, pinc]
                  simp only [pnl, pinc]
                have e66 : (if nI c = nI m then fX5_classify_b95 (fX5_classify d) (fX5_classify_b48 (fX5_classify d) N) (nI k) (nI m) (nI most) (nI c) (nI m + 1) (nI k + 1) (nU τ' 62 (upd (τ' 62) k (nI c))) else fX5_classify_b95 (fX5_classify d) (fX5_classify_b48 (fX5_classify d) N) (nI k) (nI m) (nI most) (nI c) (nI m) (nI k + 1) (nU τ' 62 (upd (τ' 62) k (nI c)))) = if v = 0 then fX5_classify_b48 (fX5_classify d) N (nI k) (nI m) (nI most) (nI (c + 1)) υ else some ((1 : Int32), υ) := by
                  have l1 : (nI c = nI m) = (c = m) := peq (by omega) (by omega)
                  by_cases y : c = m
                  · rw [if_pos (by rw [l1]; exact y), pinc, ek]
                    rw [if_pos y] at a1
                    rw [a1, pb2]
                  · rw [if_neg (by rw [l1]; exact y), ek]
                    rw [if_neg y] at a1
                    rw [a1, pb2]
                rw [if_pos bi_f, if_pos (pnd (by omega)), pcd (by omega), pnl, e66]
                cases q : h c with
                | none =>
                  rw [a3 q, if_pos rfl]
                  exact ihe N (c + 1) υ (by omega) (by omega) (fun j hj => by rw [a4 j (by omega)]; exact fk j hj) (fun j hj => by rw [a5 j hj]; exact fo j hj)
                | some g =>
                  obtain ⟨w1, w2⟩ := a2 g q
                  rw [w1, if_neg (by decide)]
                  exact ⟨1, υ, rfl, Or.inr rfl, fun g' hg => (by cases hg; exact ⟨rfl, w2⟩), fun hg => (by cases hg), fun j hj => (by rw [a4 j (by omega)]; exact fk j hj), fun j hj => (by rw [a5 j hj]; exact fo j hj)⟩
        exact main _ 4096 0 τ (by omega) (by split <;> omega) (fun _ _ => rfl) (fun _ _ => rfl)
      · have hlt : R k < k := by omega
        have hv3 := I3 (R k) hlt
        rw [if_neg (by rw [ple (by omega) (by omega)]; exact root), if_pos (pnd (by omega)), if_pos (pnd (by omega)), if_pos (pnd (by omega)), pcd (by omega), hf (R k) hlt, pnl, pinc]
        have hone : fsf h 0 (if m + 1 ≤ most then m + 1 else most) = h (f (R k)) := by
          refine fsf_one _ _ (by omega) (by split <;> omega) (fun i hi => ?_)
          rw [eh]
          refine sol_none _ _ _ (by omega) (fun g hg => ?_)
          cases q : F g with
          | false => rfl
          | true =>
            have y1 := L1 g q k (by omega)
            rw [hg k (by omega), hg (R k) (by omega), updN_s, updN_n _ _ (by omega)] at y1
            exact absurd y1.symm hi
        rw [hone, eh, if_neg (by omega)]
        have f62 : ∀ j, j < k + 1 → (nU τ 62 (upd (τ 62) k (nI (f (R k))))) 62 j = nI (updN f k (f (R k)) j) := by
          intro j hj
          rw [nU_s]
          by_cases y : j = k
          · subst y; rw [upd_s, updN_s]
          · rw [upd_n _ _ y, updN_n _ _ y]; exact hf j (by omega)
        have fo : ∀ j, j ≠ 62 → (nU τ 62 (upd (τ 62) k (nI (f (R k))))) j = τ j := fun j hj => nU_n _ _ hj
        obtain ⟨v, υ, a1, a0, a2, a3, a4, a5⟩ := ih d (k + 1) m (updN f k (f (R k))) (nU τ 62 (upd (τ 62) k (nI (f (R k))))) (by omega) (by omega) (hR.frame fo) f62 (updN_lt hf2 (hf2 _)) (by omega) hmm
          (fun j hj => by
            by_cases y : j = k
            · rw [y, updN_s, updN_n _ _ (by omega)]
            · obtain ⟨-, s1, -, -, -⟩ := hR j (by omega)
              rw [updN_n _ _ y, updN_n _ _ (by omega)]; exact I1 j (by omega))
          (fun x y hx hy hb => by
            obtain ⟨-, w1, w2⟩ := L3 x y (by omega) (by omega) hb
            by_cases x1 : x = k
            · subst x1; omega
            · by_cases y1 : y = k
              · subst y1; omega
              · rw [updN_n _ _ x1, updN_n _ _ y1]; exact I2 x y (by omega) (by omega) hb)
          (fun j hj => by
            by_cases y : j = k
            · rw [y, updN_s]; exact hv3
            · rw [updN_n _ _ y]; exact I3 j (by omega))
        rw [a1, pb2, if_pos a0]
        exact ⟨v, υ, rfl, a0, a2, a3, fun j hj => by rw [a4 j (by omega), nU_s, upd_n _ _ (by omega)], fun j hj => by rw [a5 j hj]; exact fo j hj⟩
