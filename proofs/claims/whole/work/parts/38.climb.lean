/-! PURE 29: climb -/
/-- all that is reached -/
theorem C_reached {σ : nS} {W : Nat → Nat → Bool} {G x : Nat} (h : LK σ W G) (hG : G ≤ 8) (hx : x < G) : fX3_reachedFrom (nI x) σ = some (nI (bset (fr W G x (G - 1)) G)) := by
  rw [fX3_reachedFrom, p2x (by omega), pnl, ← bset_one hx, pl1]
  -- t rounds: at least what t steps reach, no more than all that is reached
  have main : ∀ n t (f : Nat → Bool), (∀ y, y < G → fr W G x t y = true → f y = true) → (∀ y, y < G → f y = true → fr W G x (G - 1) y = true) → t ≤ G - 1 → G - 1 < n + t →
      fX3_reachedFrom_b6 n (nI (bset f G)) (nI (t + 1)) σ = some (nI (bset (fr W G x (G - 1)) G)) := by
    intro n
    induction n with
    | zero => intro t f _ _ h1 h2; omega
    | succ n ih =>
      intro t f h1 h2 h3 h4
      by_cases c : G - 1 ≤ t
      · rw [fX3_reachedFrom_b6, h.1, if_pos (by rw [ple (by omega) (by omega)]; omega)]
        obtain rfl : t = G - 1 := by omega
        congr 2
        apply bset_congr
        intro i hi
        cases e : fr W G x (G - 1) i with
        | true => exact h1 i hi e
        | false =>
          cases e2 : f i with
          | false => rfl
          | true => rw [h2 i hi e2] at e; cases e
      · have c' : ¬ nI G ≤ nI (t + 1) := by rw [ple (by omega) (by omega)]; omega
        rw [fX3_reachedFrom_b6, h.1, if_neg c']
        -- inside a round
        have inner : ∀ m g (f' : Nat → Bool), (∀ y, y < G → fr W G x t y = true → f' y = true) → (∀ a y, a < g → y < G → fr W G x t a = true → W a y = true → f' y = true) → (∀ y, y < G → f' y = true → fr W G x (G - 1) y = true) → g ≤ G → G < m + g →
            fX3_reachedFrom_b17 (fX3_reachedFrom_b6 n) m (nI (bset f' G)) (nI (t + 1)) (nI g) σ = some (nI (bset (fr W G x (G - 1)) G)) := by
          intro m
          induction m with
          | zero => intro g f' _ _ _ h1 h2; omega
          | succ m ihm =>
            intro g f' k1 k2 k3 k4 k5
            by_cases d : G ≤ g
            · rw [fX3_reachedFrom_b17, h.1, if_pos (by rw [ple (by omega) (by omega)]; omega), pnl, pinc]
              refine ih (t + 1) f' (fun y hy e => ?_) k3 (by omega) (by omega)
              rw [fr_s, Bool.or_eq_true] at e
              rcases e with e | e
              · exact k1 y hy e
              · obtain ⟨a, a1, a2⟩ := (anyb_iff _ G).mp e
                rw [Bool.and_eq_true] at a2
                exact k2 a y (by omega) hy a2.1 a2.2
            · have d' : ¬ nI G ≤ nI g := by rw [ple (by omega) (by omega)]; omega
              rw [fX3_reachedFrom_b17, h.1, if_neg d', phas5 σ hG (show g < 8 by omega), pb]
              simp only [show g < G by omega, decide_true, Bool.true_and]
              cases e : f' g with
              | false =>
                rw [if_pos bi_f, pnl, pinc]
                refine ihm (g + 1) f' k1 (fun a y ha hy q1 q2 => ?_) k3 (by omega) (by omega)
                by_cases q : a = g
                · subst q
                  rw [k1 a (by omega) q1] at e; cases e
                · exact k2 a y (by omega) hy q1 q2
              | true =>
                rw [if_neg (by decide), if_pos (pnd (by omega)), pcd (by omega), h.2 g (by omega), por, bset_or, pnl, pnl, pinc]
                refine ihm (g + 1) _ (fun y hy q => ?_) (fun a y ha hy q1 q2 => ?_) (fun y hy q => ?_) (by omega) (by omega)
                · rw [k1 y hy q, Bool.true_or]
                · by_cases q : a = g
                  · subst q; rw [q2, Bool.or_true]
                  · rw [k2 a y (by omega) hy q1 q2, Bool.true_or]
                · rw [Bool.or_eq_true] at q
                  rcases q with q | q
                  · exact k3 y hy q
                  · have r1 := k3 g (by omega) e
                    have r2 : fr W G x (G - 1 + 1) y = true := by
                      rw [fr_s, Bool.or_eq_true]
                      exact Or.inr ((anyb_iff _ G).mpr ⟨g, by omega, by rw [r1, q]; rfl⟩)
                    exact fr_pig hx hy r2
        exact inner 4096 0 f h1 (fun a y ha => by omega) h2 (by omega) (by omega)
  have e1 : (fun y => decide (y = x)) = fr W G x 0 := rfl
  rw [e1]
  exact main 4096 0 (fr W G x 0) (fun y _ e => e) (fun y _ e => fr_mono (by omega) e) (by omega) (by omega)
def vm (ok : Nat → Bool) (f : Nat → Nat) (b : Nat) : Nat → Nat
  | 0 => 0
  | n + 1 => if ok n = true then (if vm ok f b n ≤ f n - b then f n - b else vm ok f b n) else vm ok f b n
theorem vm_max {ok : Nat → Bool} {f : Nat → Nat} {b M : Nat} : ∀ n, (∀ i, i < n → ok i = true → f i ≤ M) → vm ok f b n ≤ M - b ∧ ∀ i, i < n → ok i = true → f i - b ≤ vm ok f b n := by
  intro n
  induction n with
  | zero => intro _; exact ⟨by rw [vm]; omega, fun i h => by omega⟩
  | succ n ih =>
    intro h
    obtain ⟨h1, h2⟩ := ih (fun i hi => h i (by omega))
    rw [vm]
    cases e : ok n with
    | false =>
      rw [if_neg (by simp)]
      refine ⟨h1, fun i hi q => ?_⟩
      by_cases c : i = n
      · subst c; rw [e] at q; cases q
      · exact h2 i (by omega) q
    | true =>
      rw [if_pos rfl]
      have := h n (by omega) e
      by_cases c2 : vm ok f b n ≤ f n - b
      · rw [if_pos c2]
        refine ⟨by omega, fun i hi q => ?_⟩
        by_cases c : i = n
        · subst c; exact Nat.le_refl _
        · have := h2 i (by omega) q; omega
      · rw [if_neg c2]
        refine ⟨h1, fun i hi q => ?_⟩
        by_cases c : i = n
        · subst c; omega
        · exact h2 i (by omega) q
theorem S_climb {σ : nS} (I : Inv σ) (x y : Int32) : Sef σ (fX5_climb x y) (fX6_climb x y) := by
  obtain ⟨G, P, L, w, hw, hc, h3, h4, hG, hP, hL⟩ := I.1.get
  have mP : ∀ τ : nS, τ 64 = σ 64 → fX6_isPerson x τ = some (bi (decide (nin x P))) := fun τ e => M_isPerson x (by rw [e]; exact hw.2.2.2.2.1) (show P ≤ 8 by omega)
  have mG : ∀ (v : Int32) (τ : nS), τ 64 = σ 64 → fX6_isGood v τ = some (bi (decide (nin v G))) := fun v τ e => M_isGood v (by rw [e]; exact hw.2.2.2.1) hG
  simp only [Sef, fX5_climb, fX6_climb, C_isPerson x hc.2.1 (show P ≤ 8 by omega), C_isGoods y hc.1 hG, pb]
  cases h : decide (nin x P) with
  | false => simp only [bif0, if_true]; exact ⟨_, _, rfl, by rw [mP σ rfl, h, pb]; simp only [bif0, if_true], I⟩
  | true =>
    simp only [bit0, if_false]
    cases h2 : decide (nin y G) with
    | false =>
      simp only [bif0, if_true]
      exact ⟨_, _, rfl, by rw [mP σ rfl, h, pb, mG y σ rfl, h2, pb]; simp only [bif0, bit0, if_true, if_false], I⟩
    | true =>
      have q1 := h
      have q2 := h2
      obtain ⟨p, hp, rfl⟩ := gtn h (by omega)
      obtain ⟨a, ha, rfl⟩ := gtn h2 (by omega)
      obtain ⟨τ, c1, c2, f⟩ := C_look hc hw hp
      have e64 : τ 64 = σ 64 := f 64 (by omega)
      have hw' : WF (τ 64) G P L := by rw [e64]; exact hw
      have hc' : CT τ 1 (σ 64) G P L := hc.frame (fun j a b => f j (by omega))
      simp only [bit0, if_false, c1, pb2, C_reached c2 hG ha, pb, C_most hc' hw hp (show w < 2147483648 by omega) h3]
      generalize hok : fr (would (σ 64) p) G a (G - 1) = ok
      generalize hlt : (fun g b => decide (wth (σ 64) p b < wth (σ 64) p g)) = lt
      -- worths as numbers
      have hwn : ∀ g, g < G → nat (wth (σ 64) p g) < 64 ∧ wth (σ 64) p g = nI (nat (wth (σ 64) p g)) := by
        intro g hg
        obtain ⟨v, hv, ev⟩ := wth_rng hw hp hg (show w < 2147483648 by omega) h3
        rw [ev, nat_nI (by omega)]
        exact ⟨hv, rfl⟩
      have hl : ∀ g b, g < G → b < G → lt g b = decide (nat (wth (σ 64) p b) < nat (wth (σ 64) p g)) := by
        intro g b hg hb
        have e : lt g b = decide (wth (σ 64) p b < wth (σ 64) p g) := by rw [← hlt]
        obtain ⟨g1, g2⟩ := hwn g hg
        obtain ⟨b1, b2⟩ := hwn b hb
        have e2 : (wth (σ 64) p b < wth (σ 64) p g) = (nat (wth (σ 64) p b) < nat (wth (σ 64) p g)) := by
          rw [g2, b2, plt (by omega) (by omega), nat_nI (by omega), nat_nI (by omega)]
        rw [e]
        simp only [e2]
      have hmx := bst_max (ok := ok) (f := fun g => nat (wth (σ 64) p g)) G hl
      have hoka : ok a = true := by rw [← hok]; exact fr_mono (Nat.zero_le _) (by rw [fr]; simp)
      obtain ⟨b, b1, b2⟩ := hmx a ha hoka
      obtain ⟨hb, okb⟩ := bst_ok ok lt G b b1
      have hall : ∀ i, i < G → ok i = true → nat (wth (σ 64) p i) ≤ nat (wth (σ 64) p b) := by
        intro i hi hk
        obtain ⟨b', c1, c2⟩ := hmx i hi hk
        rw [b1] at c1; cases c1
        exact c2
      have nb : 0 ≤ enc (some b) := by show 0 ≤ nI b; rw [pge0 (by omega)]; trivial
      obtain ⟨wb1, wb2⟩ := hwn b hb
      obtain ⟨wa1, wa2⟩ := hwn a ha
      rw [b1, if_pos nb]
      have eb : enc (some b) = nI b := rfl
      rw [eb, C_worthTo hc' hw hp hb, pb, C_worthTo hc' hw hp ha, pb, wb2, wa2]
      rw [pk_sub b2]
      refine ⟨_, τ, rfl, ?_, I.steps f⟩
      rw [mP τ e64, q1, pb, mG _ τ e64, q2, pb]
      simp only [bit0, if_false]
      have hv := vm_max (b := nat (wth (σ 64) p a)) G hall
      have ev : vm ok (fun g => nat (wth (σ 64) p g)) (nat (wth (σ 64) p a)) G = nat (wth (σ 64) p b) - nat (wth (σ 64) p a) := by
        have := hv.1
        have := hv.2 b hb okb
        omega
      have hvs : ∀ i, i ≤ G → vm ok (fun g => nat (wth (σ 64) p g)) (nat (wth (σ 64) p a)) i < 1000 := by
        intro i hi
        have := (vm_max (b := nat (wth (σ 64) p a)) i (fun j hj => hall j (by omega))).1
        omega
      rw [← ev]
      exact ploop (fun n i => fX6_climb_b23 n (nI p) (nI a) (nI (vm ok (fun g => nat (wth (σ 64) p g)) (nat (wth (σ 64) p a)) i)) (nI i) τ) _ G
        (fun n => by
          have c' : nI G ≤ nI G := by rw [ple (by omega) (by omega)]; omega
          rw [fX6_climb_b23]
          simp only [pk0, if_true, tc0, hw'.2.2.2.1, if_pos c'])
        (fun n i hi => by
          have c' : ¬ nI G ≤ nI i := by rw [ple (by omega) (by omega)]; omega
          obtain ⟨wi1, wi2⟩ := hwn i hi
          rw [fX6_climb_b23]
          simp only [pk0, if_true, tc0, hw'.2.2.2.1, if_neg c']
          rw [M_stepsOf hw' hp ha hi, pb, e64, vm]
          have hst : ok i = (stp (would (σ 64) p) G a i).isSome := by
            rw [← hok]
            cases e : stp (would (σ 64) p) G a i with
            | none => exact fs_none e (G - 1) (by omega)
            | some m => exact fr_pig ha hi (fs_some e).2.1
          rw [hst]
          cases e : stp (would (σ 64) p) G a i with
          | none =>
            rw [if_pos (show enc none < 0 by decide), pnl, pinc]
            rfl
          | some m =>
            have hm := (fs_some e).1
            rw [if_neg (show ¬ enc (some m) < 0 by show ¬ nI m < 0; rw [pneg (by omega)]; simp), M_worthIn (show p < 6 by omega) (show i < 8 by omega), pb, M_worthIn (show p < 6 by omega) (show a < 8 by omega), pb, e64]
            have em := sub_most (hvs i (by omega)) (show nat (wth (σ 64) p i) < 1000 by omega) (show nat (wth (σ 64) p a) < 1000 by omega) τ
            rw [← wi2, ← wa2] at em
            rw [em, pb, pnl, pinc]
            rfl)
        4096 0 (by omega) (by omega)
