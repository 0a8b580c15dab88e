/-! PURE 34: what a row tells of sames; the reference's list -/
def tru (aa bb ss : Nat → Nat) (g : Nat → Nat) (t : Nat) : Bool := decide (decide (g (aa t) = g (bb t)) = decide (ss t = 1))
def ful (aa bb ss : Nat → Nat) (T : Nat) (g : Nat → Nat) : Bool := allb (tru aa bb ss g) T
def fit (aa bb ss : Nat → Nat) (T k : Nat) (g : Nat → Nat) : Bool := allb (fun t => decide (k < aa t) || (decide (k < bb t) || tru aa bb ss g t)) T
def TV (τ : nS) (d T : Nat) (aa bb ss : Nat → Nat) : Prop := T ≤ 33 ∧ τ 76 d = nI (3 * T) ∧ ∀ t, t < T → τ 77 (100 * d + 3 * t) = nI (aa t) ∧ τ 77 (100 * d + 3 * t + 1) = nI (bb t) ∧ τ 77 (100 * d + 3 * t + 2) = nI (ss t) ∧ aa t < 8 ∧ bb t < 8 ∧ ss t < 2
theorem pa3t (t : Nat) : nI (3 * t) + (3 : Int32) = nI (3 * (t + 1)) := by rw [pa3]; congr 1
theorem M_fits {τ : nS} {d T k : Nat} {aa bb ss f : Nat → Nat} (hv : TV τ d T aa bb ss) (hd : d < 8) (e13 : τ 63 13 = nI d) (hk : k < 8) (hf : ∀ j, j ≤ k → τ 71 j = nI (f j)) (hf2 : ∀ j, f j < 100) : fX6_fitsList (nI k) τ = some (bi (fit aa bb ss T k f)) := by
  obtain ⟨hT, e76, ev⟩ := hv
  rw [fX6_fitsList, fit]
  generalize hg : (fun t => decide (k < aa t) || (decide (k < bb t) || tru aa bb ss f t)) = g
  have eg : ∀ t, g t = (decide (k < aa t) || (decide (k < bb t) || tru aa bb ss f t)) := fun t => by rw [← hg]
  have st : ∀ n t, t < T → fX6_fitsList_b2 (n + 1) (nI k) (nI (3 * t)) τ = if g t = true then fX6_fitsList_b2 n (nI k) (nI (3 * (t + 1))) τ else some 0 := by
    intro n t ht
    obtain ⟨v1, v2, v3, b1, b2, b3⟩ := ev t ht
    have c' : ¬ nI (3 * T) ≤ nI (3 * t) := by rw [ple (by omega) (by omega)]; omega
    have i1 : (100 : Int32) * nI d + nI (3 * t) = nI (100 * d + 3 * t) := p100i d (3 * t)
    have n1 : nin (nI (100 * d + 3 * t)) 800 := pnin0 (by omega) (by omega)
    have n2 : nin (nI (100 * d + 3 * t + 1)) 800 := pnin0 (by omega) (by omega)
    have n3 : nin (nI (100 * d + 3 * t + 2)) 800 := pnin0 (by omega) (by omega)
    have t1 : (nI (100 * d + 3 * t)).toNatClampNeg = 100 * d + 3 * t := pc0 (by omega)
    have t2 : (nI (100 * d + 3 * t + 1)).toNatClampNeg = 100 * d + 3 * t + 1 := pc0 (by omega)
    have t3 : (nI (100 * d + 3 * t + 2)).toNatClampNeg = 100 * d + 3 * t + 2 := pc0 (by omega)
    have l1 : (nI k < nI (aa t)) = (k < aa t) := plt (by omega) (by omega)
    have l2 : (nI k < nI (bb t)) = (k < bb t) := plt (by omega) (by omega)
    rw [fX6_fitsList_b2, e13, if_pos (pnd hd), pcd hd, e76, if_neg c', i1, if_pos n1, t1, v1, pnl, pinc, if_pos n2, t2, v2, pnl, eg]
    by_cases q1 : k < aa t
    · rw [if_pos (by rw [l1]; exact q1), pnl, pa3t, decide_eq_true q1]; rfl
    · rw [if_neg (by rw [l1]; exact q1), decide_eq_false q1, Bool.false_or]
      by_cases q2 : k < bb t
      · rw [if_pos (by rw [l2]; exact q2), pnl, pa3t, decide_eq_true q2]; rfl
      · have f1 := hf (aa t) (by omega)
        have f2 := hf (bb t) (by omega)
        have h1 := hf2 (aa t)
        have h2 := hf2 (bb t)
        have l3 : (nI (f (aa t)) = nI (f (bb t))) = (f (aa t) = f (bb t)) := peq (by omega) (by omega)
        have l4 : (nI (ss t) = 1) = (ss t = 1) := by rw [pl1, peq (by omega) (by omega)]
        have e80 : ∀ z, fX6_fitsList_b80 (fX6_fitsList_b2 n) (nI k) (nI (3 * t)) z τ = if ss t = 1 then fX6_fitsList_b105 (fX6_fitsList_b2 n) (nI k) (nI (3 * t)) 1 z τ else fX6_fitsList_b105 (fX6_fitsList_b2 n) (nI k) (nI (3 * t)) 0 z τ := by
          intro z
          rw [fX6_fitsList_b80, e13, i1, pa2, if_pos n3, t3, v3]
          simp only [l4]
        rw [if_neg (by rw [l2]; exact q2), decide_eq_false q2, Bool.false_or, if_pos (pnd b1), if_pos (pnd b2), pcd b1, pcd b2, f1, f2, tru, e80, e80]
        by_cases q3 : f (aa t) = f (bb t)
        · rw [if_pos (by rw [l3]; exact q3), decide_eq_true q3]
          by_cases q4 : ss t = 1
          · rw [if_pos q4, decide_eq_true q4, fX6_fitsList_b105, if_pos rfl, pnl, pa3t]; rfl
          · rw [if_neg q4, decide_eq_false q4, fX6_fitsList_b105, if_neg (by decide)]; rfl
        · rw [if_neg (by rw [l3]; exact q3), decide_eq_false q3]
          by_cases q4 : ss t = 1
          · rw [if_pos q4, decide_eq_true q4, fX6_fitsList_b105, if_neg (by decide)]; rfl
          · rw [if_neg q4, decide_eq_false q4, fX6_fitsList_b105, if_pos rfl, pnl, pa3t]; rfl
  rcases fstbad (fun t => g t = true) T with hA | ⟨m, hm, hbad, hA⟩
  · rw [(allb_iff g T).mpr hA]
    exact ploop (fun n t => fX6_fitsList_b2 n (nI k) (nI (3 * t)) τ) (some (bi true)) T
      (fun n => by
        have c' : nI (3 * T) ≤ nI (3 * T) := by rw [ple (by omega) (by omega)]; omega
        rw [fX6_fitsList_b2, e13, if_pos (pnd hd), pcd hd, e76, if_pos c']; rfl)
      (fun n t ht => by rw [st n t ht, if_pos (hA t ht)]) 4096 0 (by omega) (by omega)
  · have hbad := eq_false_of_ne_true hbad
    rw [allb_f hm hbad]
    exact ploop (fun n t => fX6_fitsList_b2 n (nI k) (nI (3 * t)) τ) (some (bi false)) m
      (fun n => by rw [st n m hm, hbad]; rfl)
      (fun n t ht => by rw [st n t (by omega), if_pos (hA t ht)]) 4096 0 (by omega) (by omega)
theorem updN_lt {f : Nat → Nat} {k x : Nat} (hf : ∀ j, f j < 100) (hx : x < 100) : ∀ j, updN f k x j < 100 := by
  intro j
  by_cases c : j = k
  · rw [c, updN_s]; exact hx
  · rw [updN_n _ _ c]; exact hf j
theorem M_isListed {d0 T n : Nat} {aa bb ss : Nat → Nat} (hd : d0 < 8) (hn : n ≤ 8) : ∀ r d k m (f : Nat → Nat) (τ : nS), k + r = 8 → r < d → TV τ d0 T aa bb ss → τ 63 13 = nI d0 → (∀ j, j < k → τ 71 j = nI (f j)) → (∀ j, f j < 100) → m ≤ k → (∀ t, t < T → aa t < k → bb t < k → tru aa bb ss f t = true) →
    ∃ v υ, fX6_isListed d (nI k) (nI n) (nI m) τ = some (v, υ) ∧ (∀ g, sol (ful aa bb ss T) (fun m => decide (m = n)) n r m f = some g → v = 1 ∧ ∀ j, j < 8 → υ 71 j = nI (g j)) ∧ (sol (ful aa bb ss T) (fun m => decide (m = n)) n r m f = none → v = 0) ∧ (∀ j, j < k → υ 71 j = τ 71 j) ∧ ∀ j, j ≠ 71 → υ j = τ j := by
  intro r
  induction r with
  | zero =>
    intro d k m f τ h1 h2 hv e13 hf hf2 hm hV
    match d, h2 with
    | d + 1, _ =>
      obtain rfl : k = 8 := by omega
      have hF : ful aa bb ss T f = true := (allb_iff _ T).mpr (fun t ht => by
        obtain ⟨-, -, ev⟩ := hv
        obtain ⟨-, -, -, b1, b2, -⟩ := ev t ht
        exact hV t ht b1 b2)
      have l1 : (nI m = nI n) = (m = n) := peq (by omega) (by omega)
      rw [fX6_isListed, fX6_isListed_e, if_pos (by decide), sol, hF]
      by_cases q : m = n
      · rw [if_pos (by rw [l1]; exact q), decide_eq_true q]
        refine ⟨1, τ, rfl, fun g hg => ⟨rfl, fun j hj => ?_⟩, fun hg => ?_, fun _ _ => rfl, fun _ _ => rfl⟩
        · cases hg; exact hf j hj
        · cases hg
      · rw [if_neg (by rw [l1]; exact q), decide_eq_false q]
        exact ⟨0, τ, rfl, fun g hg => (by cases hg), fun _ => rfl, fun _ _ => rfl, fun _ _ => rfl⟩
  | succ r ih =>
    intro d k m f τ h1 h2 hv e13 hf hf2 hm hV
    match d, h2 with
    | d + 1, h2 =>
      have hk : k = 7 - r := by omega
      have hne : ¬ nI k = 8 := by rw [pl8, peq (by omega) (by omega)]; omega
      rw [fX6_isListed, fX6_isListed_e, if_neg hne, sol_s, pl0, ← hk]
      generalize hh : (fun c => sol (ful aa bb ss T) (fun m => decide (m = n)) n r (if c = m then m + 1 else m) (updN f k c)) = h
      have eh : ∀ c, h c = sol (ful aa bb ss T) (fun m => decide (m = n)) n r (if c = m then m + 1 else m) (updN f k c) := fun c => by rw [← hh]
      have main : ∀ e N c (τ' : nS), c + e = (if m + 1 ≤ n then m + 1 else n) → e < N → (∀ j, j < k → τ' 71 j = τ 71 j) → (∀ j, j ≠ 71 → τ' j = τ j) →
          ∃ v υ, fX6_isListed_b20 (fX6_isListed d) N (nI k) (nI n) (nI m) (nI c) τ' = some (v, υ) ∧ (∀ g, fsf h c e = some g → v = 1 ∧ ∀ j, j < 8 → υ 71 j = nI (g j)) ∧ (fsf h c e = none → v = 0) ∧ (∀ j, j < k → υ 71 j = τ 71 j) ∧ ∀ j, j ≠ 71 → υ j = τ j := by
        intro e
        induction e with
        | zero =>
          intro N c τ' q1 q2 q3 q4
          match N, q2 with
          | N + 1, _ =>
            have hc9 : c ≤ 9 := by split at q1 <;> omega
            rw [fX6_isListed_b20]
            by_cases z : n ≤ c
            · rw [if_pos (by rw [ple (by omega) (by omega)]; exact z)]
              exact ⟨0, τ', rfl, fun g hg => (by cases hg), fun _ => rfl, q3, q4⟩
            · have z2 : m < c := by split at q1 <;> omega
              rw [if_neg (by rw [ple (by omega) (by omega)]; exact z), if_pos (by rw [plt (by omega) (by omega)]; exact z2)]
              exact ⟨0, τ', rfl, fun g hg => (by cases hg), fun _ => rfl, q3, q4⟩
        | succ e ihe =>
          intro N c τ' q1 q2 q3 q4
          match N, q2 with
          | N + 1, q2 =>
            have z1 : c < n := by split at q1 <;> omega
            have z2 : c ≤ m := by split at q1 <;> omega
            have f71 : ∀ j, j ≤ k → (nU τ' 71 (upd (τ' 71) k (nI c))) 71 j = nI (updN f k c j) := by
              intro j hj
              rw [nU_s]
              by_cases y : j = k
              · subst y; rw [upd_s, updN_s]
              · rw [upd_n _ _ y, updN_n _ _ y, q3 j (by omega)]; exact hf j (by omega)
            have fo : ∀ j, j ≠ 71 → (nU τ' 71 (upd (τ' 71) k (nI c))) j = τ j := fun j hj => by rw [nU_n _ _ hj]; exact q4 j hj
            have fk : ∀ j, j < k → (nU τ' 71 (upd (τ' 71) k (nI c))) 71 j = τ 71 j := fun j hj => by rw [nU_s, upd_n _ _ (by omega)]; exact q3 j hj
            have hv' : TV (nU τ' 71 (upd (τ' 71) k (nI c))) d0 T aa bb ss := by
              unfold TV at hv ⊢
              rw [fo 76 (by omega), fo 77 (by omega)]; exact hv
            have e13' : (nU τ' 71 (upd (τ' 71) k (nI c))) 63 13 = nI d0 := by rw [fo 63 (by omega)]; exact e13
            have hf2' := updN_lt (k := k) hf2 (show c < 100 by omega)
            rw [fX6_isListed_b20, if_neg (by rw [ple (by omega) (by omega)]; omega), if_neg (by rw [plt (by omega) (by omega)]; omega), if_pos (pnd (by omega)), pcd (by omega), pnl, M_fits hv' hd e13' (by omega) f71 hf2', pb, fsf_s]
            cases ef : fit aa bb ss T k (updN f k c) with
            | false =>
              have hnone : h c = none := by
                rw [eh]
                refine sol_none _ _ _ (by omega) (fun g hg => ?_)
                cases q : ful aa bb ss T g with
                | false => rfl
                | true =>
                  have : fit aa bb ss T k (updN f k c) = true := (allb_iff _ T).mpr (fun t ht => by
                    by_cases y1 : k < aa t
                    · simp [y1]
                    · by_cases y2 : k < bb t
                      · simp [y2]
                      · have y3 := (allb_iff _ T).mp q t ht
                        rw [tru] at y3 ⊢
                        rw [← hg (aa t) (by omega), ← hg (bb t) (by omega), y3]
                        simp)
                  rw [ef] at this; cases this
              rw [if_pos bi_f, pnl, pinc, hnone]
              exact ihe N (c + 1) _ (by omega) (by omega) fk fo
            | true =>
              have hV' : ∀ t, t < T → aa t < k + 1 → bb t < k + 1 → tru aa bb ss (updN f k c) t = true := by
                intro t ht y1 y2
                have := (allb_iff _ T).mp ef t ht
                simp only [Bool.or_eq_true, decide_eq_true_eq] at this
                rcases this with y | y | y
                · omega
                · omega
                · exact y
              obtain ⟨v, υ, a1, a2, a3, a4, a5⟩ := ih d (k + 1) (if c = m then m + 1 else m) (updN f k c) (nU τ' 71 (upd (τ' 71) k (nI c))) (by omega) (by omega) hv' e13' (fun j hj => f71 j (by omega)) hf2' (by split <;> omega) hV'
              rw [← eh c] at a2 a3
              have ek : ∀ z, fX6_isListed_b66 (fX6_isListed d) (fX6_isListed_b20 (fX6_isListed d) N) (nI k) (nI n) (nI m) (nI c) (nI z) (nI n) (nI k + 1) (nU τ' 71 (upd (τ' 71) k (nI c))) = nb2 (fX6_isListed d (nI (k + 1)) (nI n) (nI z) (nU τ' 71 (upd (τ' 71) k (nI c)))) fun r2 t3 => if r2 = 0 then fX6_isListed_b20 (fX6_isListed d) N (nI k) (nI n) (nI m) (nI (c + 1)) t3 else some ((1 : Int32), t3) := by
                intro z
                rw [fX6_isListed_b66, pinc]
                simp only [pnl, pinc]
              have e66 : (if nI c = nI m then fX6_isListed_b66 (fX6_isListed d) (fX6_isListed_b20 (fX6_isListed d) N) (nI k) (nI n) (nI m) (nI c) (nI m + 1) (nI n) (nI k + 1) (nU τ' 71 (upd (τ' 71) k (nI c))) else fX6_isListed_b66 (fX6_isListed d) (fX6_isListed_b20 (fX6_isListed d) N) (nI k) (nI n) (nI m) (nI c) (nI m) (nI n) (nI k + 1) (nU τ' 71 (upd (τ' 71) k (nI c)))) = if v = 0 then fX6_isListed_b20 (fX6_isListed d) N (nI k) (nI n) (nI m) (nI (c + 1)) υ else some ((1 : Int32), υ) := by
                have l1 : (nI c = nI m) = (c = m) := peq (by omega) (by omega)
                by_cases y : c = m
                · rw [if_pos (by rw [l1]; exact y), pinc, ek]
                  rw [if_pos y] at a1
                  rw [a1, pb2]
                · rw [if_neg (by rw [l1]; exact y), ek]
                  rw [if_neg y] at a1
                  rw [a1, pb2]
              rw [if_neg (by decide), e66]
              cases q : h c with
              | none =>
                rw [a3 q, if_pos rfl]
                exact ihe N (c + 1) υ (by omega) (by omega) (fun j hj => by rw [a4 j (by omega)]; exact fk j hj) (fun j hj => by rw [a5 j hj]; exact fo j hj)
              | some g =>
                obtain ⟨w1, w2⟩ := a2 g q
                rw [w1, if_neg (by decide)]
                exact ⟨1, υ, rfl, fun g' hg => (by cases hg; exact ⟨rfl, w2⟩), fun hg => (by cases hg), fun j hj => (by rw [a4 j (by omega)]; exact fk j hj), fun j hj => (by rw [a5 j hj]; exact fo j hj)⟩
      exact main _ 4096 0 τ (by omega) (by split <;> omega) (fun _ _ => rfl) (fun _ _ => rfl)
