/-! PURE 27: chains -/
theorem p2x {x : Nat} (hx : x < 8) : (1 : Int32) <<< (nI x &&& 31) = nI (2 ^ x) := pshl x (by omega)
theorem M_stepsOf {σ : nS} {G P L p x y : Nat} (hw : WF (σ 64) G P L) (hp : p < P) (hx : x < G) (hy : y < G) : fX6_stepsOf (nI p) (nI x) (nI y) σ = some (enc (stp (would (σ 64) p) G x y)) := by
  have hG := hw.1
  generalize hW : would (σ 64) p = W
  rw [fX6_stepsOf, p2x (by omega), pnl, ← bset_one hx]
  have st : ∀ N n, n < 8 → fr W G x n y = false → fX6_stepsOf_b8 (N + 1) (nI p) (nI y) (nI (bset (fr W G x n) G)) (nI n) σ = fX6_stepsOf_b8 N (nI p) (nI y) (nI (bset (fr W G x (n + 1)) G)) (nI (n + 1)) σ := by
    intro N n hn hf
    have c' : ¬ (8 : Int32) ≤ nI n := by rw [pl8, ple (by omega) (by omega)]; omega
    rw [fX6_stepsOf_b8, if_neg c', phas6 σ hG (show y < 8 by omega), pb, hf, Bool.and_false, if_pos bi_f]
    have key := ploop (fun m i => fX6_stepsOf_b34 (fX6_stepsOf_b8 N) m (nI p) (nI y) (nI (bset (fr W G x n) G)) (nI n) (nI (bset (fun z => fr W G x n z || anyb (fun a => fr W G x n a && W a z) i) G)) (nI i) σ) (fX6_stepsOf_b8 N (nI p) (nI y) (nI (bset (fr W G x (n + 1)) G)) (nI (n + 1)) σ) G
      (fun m => by
        have c' : nI G ≤ nI G := by rw [ple (by omega) (by omega)]; omega
        rw [fX6_stepsOf_b34]
        simp only [pk0, if_true, tc0, hw.2.2.2.1, if_pos c', pnl, pinc]
        rfl)
      (fun m i hi => by
        have c' : ¬ nI G ≤ nI i := by rw [ple (by omega) (by omega)]; omega
        rw [fX6_stepsOf_b34]
        simp only [pk0, if_true, tc0, hw.2.2.2.1, if_neg c']
        rw [phas6 σ hG (show i < 8 by omega), pb]
        simp only [hi, decide_true, Bool.true_and]
        cases e : fr W G x n i with
        | false =>
          rw [if_pos bi_f, pnl, pnl, pinc, por0]
          have : (fun z => fr W G x n z || anyb (fun a => fr W G x n a && W a z) (i + 1)) = fun z => fr W G x n z || anyb (fun a => fr W G x n a && W a z) i := by
            funext z
            rw [anyb, e, Bool.false_and, Bool.or_false]
          rw [this]
        | true =>
          rw [if_neg (by decide), M_takesOf hw hp hi, pb, pnl, pnl, pinc, hW, por, bset_or]
          have : (fun z => (fr W G x n z || anyb (fun a => fr W G x n a && W a z) i) || W i z) = fun z => fr W G x n z || anyb (fun a => fr W G x n a && W a z) (i + 1) := by
            funext z
            rw [anyb, e, Bool.true_and, Bool.or_assoc]
          rw [this])
    have k9 := key 4096 0 (by omega) (by omega)
    have e0 : (fun z => fr W G x n z || anyb (fun a => fr W G x n a && W a z) 0) = fr W G x n := by
      funext z
      rw [anyb, Bool.or_false]
    rw [e0] at k9
    exact k9
  have e1 : (fun z => decide (z = x)) = fr W G x 0 := rfl
  rw [e1, pl0]
  cases e : stp W G x y with
  | none =>
    exact ploop (fun N n => fX6_stepsOf_b8 N (nI p) (nI y) (nI (bset (fr W G x n) G)) (nI n) σ) (some (-4)) 8
      (fun N => by rw [fX6_stepsOf_b8, if_pos (by decide)])
      (fun N n hn => st N n hn (fs_none e n hn)) 4096 0 (by omega) (by omega)
  | some m =>
    obtain ⟨a1, a2, a3⟩ := fs_some e
    exact ploop (fun N n => fX6_stepsOf_b8 N (nI p) (nI y) (nI (bset (fr W G x n) G)) (nI n) σ) (some (nI m)) m
      (fun N => by
        have c' : ¬ (8 : Int32) ≤ nI m := by rw [pl8, ple (by omega) (by omega)]; omega
        rw [fX6_stepsOf_b8, if_neg c', phas6 σ hG (show y < 8 by omega), pb, a2, Bool.and_true, decide_eq_true hy, if_neg (by decide)])
      (fun N n hn => st N n (by omega) (a3 n hn)) 4096 0 (by omega) (by omega)
/-- what the class's steps hold -/
def LK (σ : nS) (W : Nat → Nat → Bool) (G : Nat) : Prop := σ 45 2 = nI G ∧ ∀ g, g < G → σ 46 g = nI (bset (W g) G)
def Fk (σ τ : nS) : Prop := ∀ j, (j < 45 ∨ 47 < j) → τ j = σ j
theorem C_look {σ : nS} {r : Nat → Int32} {G P L p : Nat} (hc : CT σ 1 r G P L) (hw : WF r G P L) (hp : p < P) : ∃ τ, fX3_look 1 (nI p) σ = some ((), τ) ∧ LK τ (would r p) G ∧ Fk σ τ := by
  have hG := hw.1
  rw [fX3_look, pnl, hc.1]
  refine ploopS (fun n i τ => fX3_look_b10 n 1 (nI p) (nI i) τ) (fun i τ => τ 45 2 = nI G ∧ (∀ g, g < i → τ 46 g = nI (bset (would r p g) G)) ∧ Fk σ τ) (fun o => ∃ τ, o = some ((), τ) ∧ LK τ (would r p) G ∧ Fk σ τ) G
    (fun n τ hI => ?_) (fun n i τ hi hI hk => ?_) 4096 0 _ (by omega) (by omega) ⟨by rw [nU_s, upd_s], fun g h => by omega, fun j hj => nU_n _ _ (by omega)⟩
  · obtain ⟨i1, i2, i3⟩ := hI
    rw [fX3_look_b10, i1, if_pos (by rw [ple (by omega) (by omega)]; omega)]
    exact ⟨τ, rfl, ⟨i1, i2⟩, i3⟩
  · obtain ⟨i1, i2, i3⟩ := hI
    have c' : ¬ nI G ≤ nI i := by rw [ple (by omega) (by omega)]; omega
    have hc' : CT τ 1 r G P L := hc.frame (fun j q1 q2 => i3 j (by omega))
    rw [fX3_look_b10, i1, if_neg c', C_takenFor hc' hw hp hi, pb, if_pos (pnd (by omega)), pcd (by omega), pnl, pnl, pinc]
    refine hk _ ⟨?_, fun g hg => ?_, fun j hj => ?_⟩
    · rw [nU_n _ _ (by omega)]; exact i1
    · rw [nU_s]
      by_cases e : g = i
      · subst e; rw [upd_s]
      · rw [upd_n _ _ e]; exact i2 g (by omega)
    · rw [nU_n _ _ (by omega)]; exact i3 j hj
theorem C_nextWith {σ : nS} {W : Nat → Nat → Bool} {G g : Nat} {s : Int32} (h : LK σ W G) (hG : G ≤ 8) (hg : g < G) : fX3_nextWith (nI g) s σ = some (enc (fs (fun y => W g y && decide (σ 47 y = s)) G)) := by
  rw [fX3_nextWith]
  have st : ∀ n y, y < G → fX3_nextWith_b2 (n + 1) (nI g) s (nI y) σ = if (W g y && decide (σ 47 y = s)) = true then some (nI y) else fX3_nextWith_b2 n (nI g) s (nI (y + 1)) σ := by
    intro n y hy
    have c' : ¬ nI G ≤ nI y := by rw [ple (by omega) (by omega)]; omega
    rw [fX3_nextWith_b2, h.1, if_neg c', if_pos (pnd (by omega)), pcd (by omega), h.2 g hg, phas5 σ hG (show y < 8 by omega), pb]
    simp only [hy, decide_true, Bool.true_and]
    cases W g y with
    | false =>
      rw [if_pos bi_f, pnl, pinc]
      simp only [Bool.false_and, Bool.false_eq_true, if_false]
    | true =>
      rw [if_neg (by decide), if_pos (pnd (by omega)), pcd (by omega)]
      by_cases c : σ 47 y = s
      · rw [if_pos c, decide_eq_true c]; rfl
      · rw [if_neg c, decide_eq_false c, pnl, pinc]
        simp only [Bool.and_false, Bool.false_eq_true, if_false]
  rw [pl0]
  generalize hf : (fun y => W g y && decide (σ 47 y = s)) = f
  have ef : ∀ y, (W g y && decide (σ 47 y = s)) = f y := fun y => by rw [← hf]
  simp only [ef] at st
  cases e : fs f G with
  | none =>
    exact ploop (fun n y => fX3_nextWith_b2 n (nI g) s (nI y) σ) (some (-4)) G
      (fun n => by rw [fX3_nextWith_b2, h.1, if_pos (by rw [ple (by omega) (by omega)]; omega)])
      (fun n y hy => by rw [st n y hy, fs_none e y hy]; rfl) 4096 0 (by omega) (by omega)
  | some m =>
    obtain ⟨a1, a2, a3⟩ := fs_some e
    exact ploop (fun n y => fX3_nextWith_b2 n (nI g) s (nI y) σ) (some (nI m)) m
      (fun n => by rw [st n m a1, a2]; rfl)
      (fun n y hy => by rw [st n y (by omega), a3 y hy]; rfl) 4096 0 (by omega) (by omega)
def lf (W : Nat → Nat → Bool) (G y t g : Nat) : Option Nat := fs (fun n => fr W G g n y) (t + 1)
theorem enc_inj {o p : Option Nat} (h1 : ∀ m, o = some m → m < 1000) (h2 : ∀ m, p = some m → m < 1000) : enc o = enc p ↔ o = p := by
  constructor
  · intro h
    cases o with
    | none =>
      cases p with
      | none => rfl
      | some b =>
        have := h2 b rfl
        simp only [enc] at h
        exfalso
        have hb : ¬ nI b < 0 := by rw [pneg (by omega)]; simp
        rw [← h] at hb
        exact hb (by decide)
    | some a =>
      have ha := h1 a rfl
      cases p with
      | none =>
        simp only [enc] at h
        exfalso
        have hb : ¬ nI a < 0 := by rw [pneg (by omega)]; simp
        rw [h] at hb
        exact hb (by decide)
      | some b =>
        have := h2 b rfl
        simp only [enc] at h
        rw [peq (by omega) (by omega)] at h
        rw [h]
  · rintro rfl; rfl
theorem lf_step {W : Nat → Nat → Bool} {G y t g : Nat} (hy : y < G) (hg : g < G) (hn : lf W G y t g = none) : fr W G g (t + 1) y = true ↔ ∃ a, a < G ∧ W g a = true ∧ lf W G y t a = some t := by
  have hno : fr W G g t y = false := fs_none hn t (by omega)
  constructor
  · intro h
    obtain ⟨k, h1, h2⟩ := (fr_iff _ _).mp h
    have hk : k = t + 1 := by
      by_cases c : k ≤ t
      · rw [(fr_iff t y).mpr ⟨k, c, h2⟩] at hno; cases hno
      · omega
    subst hk
    obtain ⟨a, b1, b2, b3⟩ := (wk_back t g y hg hy).mp h2
    refine ⟨a, b1, b2, fs_eq (by omega) ((fr_iff t y).mpr ⟨t, Nat.le_refl t, b3⟩) (fun i hi => ?_)⟩
    cases q : fr W G a i y with
    | false => rfl
    | true =>
      obtain ⟨k, k1, k2⟩ := (fr_iff i y).mp q
      have : fr W G g t y = true := (fr_iff t y).mpr ⟨k + 1, by omega, (wk_back k g y hg hy).mpr ⟨a, b1, b2, k2⟩⟩
      rw [hno] at this; cases this
  · rintro ⟨a, h1, h2, h3⟩
    obtain ⟨-, a2, -⟩ := fs_some h3
    obtain ⟨k, k1, k2⟩ := (fr_iff t y).mp a2
    exact (fr_iff (t + 1) y).mpr ⟨k + 1, by omega, (wk_back k g y hg hy).mpr ⟨a, h1, h2, k2⟩⟩
theorem lf_some {W : Nat → Nat → Bool} {G y t g m : Nat} (h : lf W G y t g = some m) : lf W G y (t + 1) g = some m := by
  rw [lf, fs_s]
  rw [lf] at h
  rw [h]
theorem lf_next {W : Nat → Nat → Bool} {G y t g : Nat} (h : lf W G y t g = none) : lf W G y (t + 1) g = if fr W G g (t + 1) y = true then some (t + 1) else none := by
  rw [lf, fs_s]
  rw [lf] at h
  rw [h]
theorem lf_lt {W : Nat → Nat → Bool} {G y t g m : Nat} (h : lf W G y t g = some m) : m ≤ t := by
  have := (fs_some h).1
  omega
theorem C_countTo {σ : nS} {W : Nat → Nat → Bool} {G y : Nat} (h : LK σ W G) (hG : G ≤ 8) (hy : y < G) : ∃ τ, fX3_countTo (nI y) σ = some ((), τ) ∧ LK τ W G ∧ (∀ g, g < G → τ 47 g = enc (stp W G g y)) ∧ Fk σ τ := by
  rw [fX3_countTo, pl0]
  have LKn : ∀ (τ : nS) f, LK τ W G → LK (nU τ 47 f) W G := fun τ f q => ⟨by rw [nU_n _ _ (by omega)]; exact q.1, fun g hg => by rw [nU_n _ _ (by omega)]; exact q.2 g hg⟩
  refine ploopS (fun n i τ => fX3_countTo_b2 n (nI y) (nI i) τ) (fun i τ => LK τ W G ∧ (∀ g, g < i → τ 47 g = enc (lf W G y 0 g)) ∧ Fk σ τ) (fun o => ∃ τ, o = some ((), τ) ∧ LK τ W G ∧ (∀ g, g < G → τ 47 g = enc (stp W G g y)) ∧ Fk σ τ) G
    (fun n τ hI => ?_) (fun n i τ hi hI hk => ?_) 4096 0 σ (by omega) (by omega) ⟨h, fun g hg => by omega, fun _ _ => rfl⟩
  · obtain ⟨i1, i2, i3⟩ := hI
    rw [fX3_countTo_b2, i1.1, if_pos (by rw [ple (by omega) (by omega)]; omega), pl1]
    refine ploopS (fun n t τ => fX3_countTo_b35 n (nI (t + 1)) τ) (fun t τ => LK τ W G ∧ (∀ g, g < G → τ 47 g = enc (lf W G y t g)) ∧ Fk σ τ) (fun o => ∃ τ, o = some ((), τ) ∧ LK τ W G ∧ (∀ g, g < G → τ 47 g = enc (stp W G g y)) ∧ Fk σ τ) (G - 1)
      (fun n τ hI => ?_) (fun n t τ ht hI hk => ?_) 4096 0 τ (by omega) (by omega) ⟨i1, i2, i3⟩
    · obtain ⟨i1, i2, i3⟩ := hI
      rw [fX3_countTo_b35, i1.1, if_pos (by rw [ple (by omega) (by omega)]; omega)]
      refine ⟨τ, rfl, i1, fun g hg => ?_, i3⟩
      rw [i2 g hg, lf, show G - 1 + 1 = G by omega, stp_G hg hy hG]
    · obtain ⟨i1, i2, i3⟩ := hI
      have c' : ¬ nI G ≤ nI (t + 1) := by rw [ple (by omega) (by omega)]; omega
      rw [fX3_countTo_b35, i1.1, if_neg c', pl0]
      refine ploopS (fun n g τ => fX3_countTo_b45 (fX3_countTo_b35 _) n (nI (t + 1)) (nI g) τ) (fun g τ => LK τ W G ∧ (∀ g', g' < g → τ 47 g' = enc (lf W G y (t + 1) g')) ∧ (∀ g', g ≤ g' → g' < G → τ 47 g' = enc (lf W G y t g')) ∧ Fk σ τ) (fun o => ∃ τ, o = some ((), τ) ∧ LK τ W G ∧ (∀ g, g < G → τ 47 g = enc (stp W G g y)) ∧ Fk σ τ) G
        (fun m τ hJ => ?_) (fun m g τ hg hJ hk2 => ?_) 4096 0 τ (by omega) (by omega) ⟨i1, fun g' hg' => by omega, fun g' _ hg' => i2 g' hg', i3⟩
      · obtain ⟨j1, j2, j3, j4⟩ := hJ
        rw [fX3_countTo_b45, j1.1, if_pos (by rw [ple (by omega) (by omega)]; omega), pnl, pinc]
        exact hk τ ⟨j1, j2, j4⟩
      · obtain ⟨j1, j2, j3, j4⟩ := hJ
        have c' : ¬ nI G ≤ nI g := by rw [ple (by omega) (by omega)]; omega
        rw [fX3_countTo_b45, j1.1, if_neg c', if_pos (pnd (by omega)), pcd (by omega), j3 g (by omega) hg]
        cases e : lf W G y t g with
        | some m =>
          have hm := lf_lt e
          rw [if_pos (by simp only [enc]; rw [pge0 (by omega)]; trivial), pnl, pinc]
          refine hk2 τ ⟨j1, fun g' hg' => ?_, fun g' h1 h2 => j3 g' (by omega) h2, j4⟩
          by_cases q : g' = g
          · subst q; rw [j3 g' (by omega) hg, e, lf_some e]
          · exact j2 g' (by omega)
        | none =>
          rw [if_neg (by decide), show nI (t + 1) - (1 : Int32) = nI t by exact pdec, C_nextWith j1 hG hg, pb]
          have hcond : ∀ a, a < G → ((W g a && decide (τ 47 a = nI t)) = true ↔ (W g a = true ∧ lf W G y t a = some t)) := by
            intro a ha
            rw [Bool.and_eq_true, decide_eq_true_eq]
            have h9 : τ 47 a = nI t ↔ lf W G y t a = some t := by
              by_cases q : a < g
              · rw [j2 a q]
                have e9 : nI t = enc (some t) := rfl
                rw [e9, enc_inj (fun m hm => by have := lf_lt hm; omega) (fun m hm => by cases hm; omega)]
                constructor
                · intro h8
                  cases e8 : lf W G y t a with
                  | some m => rw [lf_some e8] at h8; exact h8
                  | none =>
                    rw [lf_next e8] at h8
                    split at h8
                    · cases h8
                    · cases h8
                · intro h8; exact lf_some h8
              · rw [j3 a (by omega) ha]
                have e9 : nI t = enc (some t) := rfl
                rw [e9, enc_inj (fun m hm => by have := lf_lt hm; omega) (fun m hm => by cases hm; omega)]
            rw [h9]
          have hst := lf_step (W := W) (t := t) hy hg e
          have hfin : ∀ τ', LK τ' W G → τ' 47 g = enc (lf W G y (t + 1) g) → (∀ g', g' ≠ g → τ' 47 g' = τ 47 g') → (∀ j, j < 45 ∨ 47 < j → τ' j = τ j) → (LK τ' W G ∧ (∀ g', g' < g + 1 → τ' 47 g' = enc (lf W G y (t + 1) g')) ∧ (∀ g', g + 1 ≤ g' → g' < G → τ' 47 g' = enc (lf W G y t g')) ∧ Fk σ τ') := by
            intro τ' k1 k2 k3 k4
            refine ⟨k1, fun g' hg' => ?_, fun g' h1 h2 => ?_, fun j hj => (k4 j hj).trans (j4 j hj)⟩
            · by_cases q : g' = g
              · subst q; exact k2
              · rw [k3 g' q]; exact j2 g' (by omega)
            · rw [k3 g' (by omega)]; exact j3 g' (by omega) h2
          cases e2 : fs (fun a => W g a && decide (τ 47 a = nI t)) G with
          | none =>
            rw [if_pos (by decide), pnl, pinc]
            refine hk2 τ (hfin τ j1 ?_ (fun _ _ => rfl) (fun _ _ => rfl))
            rw [j3 g (by omega) hg, e, lf_next e, if_neg]
            intro h8
            obtain ⟨a, a1, a2, a3⟩ := hst.mp h8
            have := fs_none e2 a a1
            rw [(hcond a a1).mpr ⟨a2, a3⟩] at this
            cases this
          | some a =>
            obtain ⟨a1, a2, a3⟩ := fs_some e2
            have h8 := hst.mpr ⟨a, a1, (hcond a a1).mp a2⟩
            rw [if_neg (by simp only [enc]; rw [pneg (by omega)]; simp), if_pos (pnd (by omega)), pnl, pnl, pinc]
            refine hk2 _ (hfin _ (LKn τ _ j1) ?_ (fun g' hg' => ?_) (fun j hj => nU_n _ _ (by omega)))
            · rw [nU_s, upd_s, lf_next e, if_pos h8]; rfl
            · rw [nU_s, upd_n _ _ hg']
  · obtain ⟨i1, i2, i3⟩ := hI
    have c' : ¬ nI G ≤ nI i := by rw [ple (by omega) (by omega)]; omega
    have l0 : lf W G y 0 i = if y = i then some 0 else none := by
      rw [lf, fs_s]
      show (if decide (y = i) = true then some 0 else none) = _
      simp only [decide_eq_true_eq]
    have go : ∀ v, v = enc (lf W G y 0 i) → LK (nU τ 47 (upd (τ 47) i v)) W G ∧ (∀ g, g < i + 1 → (nU τ 47 (upd (τ 47) i v)) 47 g = enc (lf W G y 0 g)) ∧ Fk σ (nU τ 47 (upd (τ 47) i v)) := by
      intro v hv
      refine ⟨LKn τ _ i1, fun g hg => ?_, fun j hj => by rw [nU_n _ _ (by omega)]; exact i3 j hj⟩
      rw [nU_s]
      by_cases q : g = i
      · subst q; rw [upd_s, hv]
      · rw [upd_n _ _ q]; exact i2 g (by omega)
    rw [fX3_countTo_b2, i1.1, if_neg c']
    by_cases c : i = y
    · subst c
      rw [if_pos rfl, if_pos (pnd (by omega)), pcd (by omega), pnl, pnl, pinc]
      exact hk _ (go _ (by rw [l0, if_pos rfl]; rfl))
    · rw [if_neg (by rw [peq (by omega) (by omega)]; exact c), if_pos (pnd (by omega)), pcd (by omega), pnl, pnl, pinc]
      exact hk _ (go _ (by rw [l0, if_neg (fun q => c q.symm)]; rfl))
