/-! PURE 30: the most loans that can be paid at once: what it is, and the class's search -/
def mqf (f : Nat → Nat) (c : Nat → Bool) (w0 : Nat) : Nat → Nat
  | 0 => w0
  | i + 1 => if c i = true then (if mqf f c w0 i < 1 + f i then 1 + f i else mqf f c w0 i) else mqf f c w0 i
def cd (ok : Nat → Nat → Bool) (G l u i : Nat) : Bool := decide (i < G) && (ok l i && !u.testBit i)
def mp (ok : Nat → Nat → Bool) (G : Nat) : Nat → Nat → Nat → Nat
  | 0, _, _ => 0
  | k + 1, l, u => mqf (fun g => mp ok G k (l + 1) (u ||| 2 ^ g)) (cd ok G l u) (mp ok G k (l + 1) u) 8
def gc (ok : Nat → Nat → Bool) (G k l u : Nat) : Option Nat := fs (fun g => cd ok G l u g && decide (1 + mp ok G k (l + 1) (u ||| 2 ^ g) = mp ok G (k + 1) l u)) 8
theorem mqf_le {f : Nat → Nat} {c : Nat → Bool} {w0 M : Nat} (h0 : w0 ≤ M) : ∀ i, (∀ g, g < i → c g = true → 1 + f g ≤ M) → mqf f c w0 i ≤ M := by
  intro i
  induction i with
  | zero => intro _; exact h0
  | succ i ih =>
    intro h
    have := ih (fun g hg => h g (by omega))
    rw [mqf]
    split
    · rename_i q
      have := h i (by omega) q
      split <;> omega
    · exact this
theorem mqf_ge {f : Nat → Nat} {c : Nat → Bool} {w0 : Nat} : ∀ i, w0 ≤ mqf f c w0 i ∧ ∀ g, g < i → c g = true → 1 + f g ≤ mqf f c w0 i := by
  intro i
  induction i with
  | zero => exact ⟨Nat.le_refl _, fun g h => by omega⟩
  | succ i ih =>
    obtain ⟨h1, h2⟩ := ih
    rw [mqf]
    split
    · split
      · refine ⟨by omega, fun g hg q => ?_⟩
        by_cases e : g = i
        · subst e; exact Nat.le_refl _
        · have := h2 g (by omega) q; omega
      · refine ⟨h1, fun g hg q => ?_⟩
        by_cases e : g = i
        · subst e; omega
        · exact h2 g (by omega) q
    · rename_i q2
      refine ⟨h1, fun g hg q => ?_⟩
      by_cases e : g = i
      · subst e; exact absurd q q2
      · exact h2 g (by omega) q
theorem mqf_max (f : Nat → Nat) (c : Nat → Bool) (w0 : Nat) : ∀ i, mqf f c w0 i = if mqf f c 0 i < w0 then w0 else mqf f c 0 i := by
  intro i
  induction i with
  | zero => rw [mqf, mqf]; split <;> omega
  | succ i ih =>
    rw [mqf, mqf, ih]
    cases c i with
    | false => simp only [Bool.false_eq_true, if_false]
    | true =>
      simp only [if_true]
      generalize mqf f c 0 i = A
      generalize 1 + f i = F
      by_cases h1 : A < w0 <;> by_cases h2 : A < F <;> simp only [h1, h2, if_true, if_false] <;> (repeat' split) <;> omega
theorem mp_le (ok : Nat → Nat → Bool) (G : Nat) : ∀ k l u, mp ok G k l u ≤ k := by
  intro k
  induction k with
  | zero => intro l u; exact Nat.le_refl 0
  | succ k ih =>
    intro l u
    rw [mp]
    exact mqf_le (by have := ih (l + 1) u; omega) 8 (fun g _ _ => by have := ih (l + 1) (u ||| 2 ^ g); omega)
theorem pfreeb {ok : Nat → Nat → Bool} {G l u : Nat} (hG : G ≤ 8) (hu : u < 2 ^ G) : nI (bset (ok l) G) &&& (nI u ^^^ (-1 : Int32)) = nI (bset (cd ok G l u) 8) := by
  have h1 := bset_lt (ok l) G
  have h2 : 2 ^ G ≤ 2 ^ 8 := Nat.pow_le_pow_right (by omega) hG
  rw [pfree _ (by omega) _ (by omega)]
  congr 1
  apply bset_ext
  intro i
  rw [Nat.testBit_and, bset_bit, Nat.testBit_xor, show (255 : Nat) = 2 ^ 8 - 1 by rfl, Nat.testBit_two_pow_sub_one, cd]
  by_cases c : i < G
  · simp [c, show i < 8 by omega]
  · simp [c]
theorem pbor {u g G : Nat} (hu : u < 2 ^ G) (hg : g < G) : u ||| 2 ^ g < 2 ^ G := Nat.or_lt_two_pow hu (Nat.pow_lt_pow_right (by omega) hg)
/-- what the class's search holds -/
def KN (τ : nS) (ok : Nat → Nat → Bool) (G L : Nat) : Prop := τ 48 2 = nI L ∧ (∀ l, l < L → τ 49 l = nI (bset (ok l) G)) ∧ ∀ l, l < L → ∀ u, u < 2 ^ G → (τ (51 + l) u = -1 ∨ τ (51 + l) u = nI (mp ok G (L - l) l u))
def Fs (σ τ : nS) : Prop := ∀ j, (j < 48 ∨ 58 < j) → τ j = σ j
theorem Fs.tr {σ τ υ : nS} (h1 : Fs σ τ) (h2 : Fs τ υ) : Fs σ υ := fun j hj => (h2 j hj).trans (h1 j hj)
theorem cd_lt {ok : Nat → Nat → Bool} {G l u g : Nat} (h : cd ok G l u g = true) : g < G := by
  rw [cd, Bool.and_eq_true, decide_eq_true_eq] at h
  exact h.1
theorem C_mostPaid {ok : Nat → Nat → Bool} {G L : Nat} (hG : G ≤ 8) (hL : L ≤ 8) : ∀ k d l u (τ : nS), l + k = L → k < d → u < 2 ^ G → KN τ ok G L → ∃ υ, fX5_mostPaid d (nI l) (nI u) τ = some (nI (mp ok G k l u), υ) ∧ KN υ ok G L ∧ Fs τ υ := by
  intro k
  have h28 : 2 ^ G ≤ 2 ^ 8 := Nat.pow_le_pow_right (by omega) hG
  induction k with
  | zero =>
    intro d l u τ h1 h2 h3 hK
    match d, h2 with
    | d + 1, _ =>
      have c' : ¬ nI l < nI L := by rw [plt (by omega) (by omega)]; omega
      rw [fX5_mostPaid, fX5_mostPaid_e, hK.1, if_neg c']
      exact ⟨τ, rfl, hK, fun _ _ => rfl⟩
  | succ k ih =>
    intro d l u τ h1 h2 h3 hK
    match d, h2 with
    | d + 1, h2 =>
      have c' : nI l < nI L := by rw [plt (by omega) (by omega)]; omega
      have u256 : u < 256 := by omega
      have n1 : nin (nI u) 256 := pnin0 (by omega) u256
      have n2 : (nI u).toNatClampNeg = u := pc0 (by omega)
      have hmp := mp_le ok G (k + 1) l u
      rw [fX5_mostPaid, fX5_mostPaid_e, hK.1, if_pos c', if_pos (pnd (by omega)), pcd (by omega), if_pos n1, n2]
      rcases hK.2.2 l (by omega) u h3 with e | e
      · rw [e, if_pos (by decide), pinc]
        obtain ⟨τ1, a1, a2, a3⟩ := ih d (l + 1) u τ (by omega) (by omega) h3 hK
        rw [a1, pb2, if_pos (pnd (by omega)), a2.2.1 l (by omega), pfreeb hG h3, pnl]
        refine ploopS (fun n i τ' => fX5_mostPaid_b54 (fX5_mostPaid d) n (nI l) (nI u) (nI (mqf (fun g => mp ok G k (l + 1) (u ||| 2 ^ g)) (cd ok G l u) (mp ok G k (l + 1) u) i)) (nI (bset (cd ok G l u) 8)) (nI i) τ') (fun i τ' => KN τ' ok G L ∧ Fs τ τ') (fun o => ∃ υ, o = some (nI (mp ok G (k + 1) l u), υ) ∧ KN υ ok G L ∧ Fs τ υ) 8
          (fun n τ' hI => ?_) (fun n i τ' hi hI hk => ?_) 4096 0 τ1 (by omega) (by omega) ⟨a2, a3⟩
        · obtain ⟨i1, i2⟩ := hI
          rw [fX5_mostPaid_b54, if_pos (by decide), if_pos (pnd (by omega)), if_pos n1, pcd (by omega), n2, pnl]
          refine ⟨_, rfl, ⟨?_, fun l' hl' => ?_, fun l' hl' u' hu' => ?_⟩, fun j hj => ?_⟩
          · rw [nU_n _ _ (by omega)]; exact i1.1
          · rw [nU_n _ _ (by omega)]; exact i1.2.1 l' hl'
          · by_cases q : l' = l
            · subst q
              rw [nU_s]
              by_cases q2 : u' = u
              · subst q2
                rw [upd_s, show L - l' = k + 1 by omega]
                exact Or.inr rfl
              · rw [upd_n _ _ q2]; exact i1.2.2 l' hl' u' hu'
            · rw [nU_n _ _ (by omega)]; exact i1.2.2 l' hl' u' hu'
          · rw [nU_n _ _ (by omega)]; exact i2 j hj
        · obtain ⟨i1, i2⟩ := hI
          have d' : ¬ (8 : Int32) ≤ nI i := by rw [pl8, ple (by omega) (by omega)]; omega
          rw [fX5_mostPaid_b54, if_neg d', phas5 τ' (by omega) hi, pb]
          simp only [hi, decide_true, Bool.true_and]
          rw [mqf] at hk
          cases e2 : cd ok G l u i with
          | false =>
            rw [if_pos bi_f, pnl, pinc]
            have := hk τ' ⟨i1, i2⟩
            rw [e2] at this
            simp only [Bool.false_eq_true, if_false] at this
            exact this
          | true =>
            have hgi := cd_lt e2
            obtain ⟨τ2, b1, b2, b3⟩ := ih d (l + 1) (u ||| 2 ^ i) τ' (by omega) (by omega) (pbor h3 hgi) i1
            have hle := mp_le ok G k (l + 1) (u ||| 2 ^ i)
            have hq : mqf (fun g => mp ok G k (l + 1) (u ||| 2 ^ g)) (cd ok G l u) (mp ok G k (l + 1) u) i ≤ k + 1 :=
              mqf_le (by have := mp_le ok G k (l + 1) u; omega) i (fun g _ _ => by have := mp_le ok G k (l + 1) (u ||| 2 ^ g); omega)
            have key : (if nI (mqf (fun g => mp ok G k (l + 1) (u ||| 2 ^ g)) (cd ok G l u) (mp ok G k (l + 1) u) i) < (1 : Int32) + nI (mp ok G k (l + 1) (u ||| 2 ^ i)) then (1 : Int32) + nI (mp ok G k (l + 1) (u ||| 2 ^ i)) else nI (mqf (fun g => mp ok G k (l + 1) (u ||| 2 ^ g)) (cd ok G l u) (mp ok G k (l + 1) u) i)) = nI (if mqf (fun g => mp ok G k (l + 1) (u ||| 2 ^ g)) (cd ok G l u) (mp ok G k (l + 1) u) i < 1 + mp ok G k (l + 1) (u ||| 2 ^ i) then 1 + mp ok G k (l + 1) (u ||| 2 ^ i) else mqf (fun g => mp ok G k (l + 1) (u ||| 2 ^ g)) (cd ok G l u) (mp ok G k (l + 1) u) i) := by
              rw [pl1, padd]
              have kk : (nI (mqf (fun g => mp ok G k (l + 1) (u ||| 2 ^ g)) (cd ok G l u) (mp ok G k (l + 1) u) i) < nI (1 + mp ok G k (l + 1) (u ||| 2 ^ i))) = (mqf (fun g => mp ok G k (l + 1) (u ||| 2 ^ g)) (cd ok G l u) (mp ok G k (l + 1) u) i < 1 + mp ok G k (l + 1) (u ||| 2 ^ i)) := plt (by omega) (by omega)
              by_cases q : mqf (fun g => mp ok G k (l + 1) (u ||| 2 ^ g)) (cd ok G l u) (mp ok G k (l + 1) u) i < 1 + mp ok G k (l + 1) (u ||| 2 ^ i)
              · rw [if_pos (by rw [kk]; exact q), if_pos q]
              · rw [if_neg (by rw [kk]; exact q), if_neg q]
            rw [if_neg (by decide), p2x (by omega), por, pinc, b1, pb2, pnl, pnl, pinc, key]
            have := hk τ2 ⟨b2, i2.tr b3⟩
            rw [e2] at this
            simp only [if_true] at this
            exact this
      · have nn : ¬ nI (mp ok G (L - l) l u) < 0 := by
          have := mp_le ok G (L - l) l u
          rw [pneg (by omega)]; simp
        rw [e, if_neg nn, if_pos (pnd (by omega)), if_pos n1, show L - l = k + 1 by omega]
        exact ⟨τ, rfl, hK, fun _ _ => rfl⟩
theorem C_firstBest {ok : Nat → Nat → Bool} {G L k l u : Nat} {τ : nS} (hG : G ≤ 8) (hL : L ≤ 8) (h1 : l + (k + 1) = L) (h3 : u < 2 ^ G) (hK : KN τ ok G L) : ∃ υ, fX0_firstBest (nI l) (nI u) τ = some (enc (gc ok G k l u), υ) ∧ KN υ ok G L ∧ Fs τ υ := by
  obtain ⟨τ1, a1, a2, a3⟩ := C_mostPaid hG hL (k + 1) 20 l u τ h1 (by omega) h3 hK
  rw [fX0_firstBest, a1, pb2, if_pos (pnd (by omega)), pcd (by omega), a2.2.1 l (by omega), pfreeb hG h3, pnl, gc]
  generalize hf : (fun g => cd ok G l u g && decide (1 + mp ok G k (l + 1) (u ||| 2 ^ g) = mp ok G (k + 1) l u)) = f
  have ef : ∀ g, f g = (cd ok G l u g && decide (1 + mp ok G k (l + 1) (u ||| 2 ^ g) = mp ok G (k + 1) l u)) := fun g => by rw [← hf]
  have hmp := mp_le ok G (k + 1) l u
  have st : ∀ n i (τ' : nS), i < 8 → KN τ' ok G L → ∃ υ, fX0_firstBest_b22 (n + 1) (nI l) (nI u) (nI (mp ok G (k + 1) l u)) (nI (bset (cd ok G l u) 8)) (nI i) τ' = (if f i = true then some (nI i, υ) else fX0_firstBest_b22 n (nI l) (nI u) (nI (mp ok G (k + 1) l u)) (nI (bset (cd ok G l u) 8)) (nI (i + 1)) υ) ∧ KN υ ok G L ∧ Fs τ' υ := by
    intro n i τ' hi hK'
    have d' : ¬ (8 : Int32) ≤ nI i := by rw [pl8, ple (by omega) (by omega)]; omega
    rw [fX0_firstBest_b22, if_neg d', phas5 τ' (by omega) hi, pb, ef i]
    simp only [hi, decide_true, Bool.true_and]
    cases e2 : cd ok G l u i with
    | false =>
      rw [if_pos bi_f, pnl, pinc]
      exact ⟨τ', by simp only [Bool.false_and, Bool.false_eq_true, if_false], hK', fun _ _ => rfl⟩
    | true =>
      have hgi := cd_lt e2
      obtain ⟨τ2, b1, b2, b3⟩ := C_mostPaid hG hL k 20 (l + 1) (u ||| 2 ^ i) τ' (by omega) (by omega) (pbor h3 hgi) hK'
      have hle := mp_le ok G k (l + 1) (u ||| 2 ^ i)
      rw [if_neg (by decide), p2x (by omega), por, pinc, b1, pb2, pl1, padd, ← pl1, pnl, pinc]
      refine ⟨τ2, ?_, b2, b3⟩
      rw [Bool.true_and]
      have kk : (nI (1 + mp ok G k (l + 1) (u ||| 2 ^ i)) = nI (mp ok G (k + 1) l u)) = (1 + mp ok G k (l + 1) (u ||| 2 ^ i) = mp ok G (k + 1) l u) := peq (by omega) (by omega)
      by_cases q : 1 + mp ok G k (l + 1) (u ||| 2 ^ i) = mp ok G (k + 1) l u
      · rw [if_pos (by rw [kk]; exact q), decide_eq_true q]; rfl
      · rw [if_neg (by rw [kk]; exact q), decide_eq_false q]; rfl
  rw [pl0]
  cases e : fs f 8 with
  | none =>
    exact ploopS (fun n i τ' => fX0_firstBest_b22 n (nI l) (nI u) (nI (mp ok G (k + 1) l u)) (nI (bset (cd ok G l u) 8)) (nI i) τ') (fun i τ' => KN τ' ok G L ∧ Fs τ τ') (fun o => ∃ υ, o = some (enc none, υ) ∧ KN υ ok G L ∧ Fs τ υ) 8
      (fun n τ' hI => by rw [fX0_firstBest_b22, if_pos (by decide)]; exact ⟨τ', rfl, hI⟩)
      (fun n i τ' hi hI hk => by
        obtain ⟨υ, s1, s2, s3⟩ := st n i τ' hi hI.1
        rw [fs_none e i hi] at s1
        rw [s1]
        exact hk υ ⟨s2, hI.2.tr s3⟩) 4096 0 τ1 (by omega) (by omega) ⟨a2, a3⟩
  | some m =>
    obtain ⟨c1, c2, c3⟩ := fs_some e
    exact ploopS (fun n i τ' => fX0_firstBest_b22 n (nI l) (nI u) (nI (mp ok G (k + 1) l u)) (nI (bset (cd ok G l u) 8)) (nI i) τ') (fun i τ' => KN τ' ok G L ∧ Fs τ τ') (fun o => ∃ υ, o = some (enc (some m), υ) ∧ KN υ ok G L ∧ Fs τ υ) m
      (fun n τ' hI => by
        obtain ⟨υ, s1, s2, s3⟩ := st n m τ' c1 hI.1
        rw [c2] at s1
        rw [s1]
        exact ⟨υ, rfl, s2, hI.2.tr s3⟩)
      (fun n i τ' hi hI hk => by
        obtain ⟨υ, s1, s2, s3⟩ := st n i τ' (by omega) hI.1
        rw [c3 i hi] at s1
        rw [s1]
        exact hk υ ⟨s2, hI.2.tr s3⟩) 4096 0 τ1 (by omega) (by omega) ⟨a2, a3⟩
/-- the goods that are used before loan l -/
def ux (u : Nat) (o : Option Nat) : Nat := match o with | none => u | some g => u ||| 2 ^ g
def uz (ok : Nat → Nat → Bool) (G L : Nat) : Nat → Nat
  | 0 => 0
  | l + 1 => ux (uz ok G L l) (gc ok G (L - (l + 1)) l (uz ok G L l))
theorem gc_lt {ok : Nat → Nat → Bool} {G k l u g : Nat} (h : gc ok G k l u = some g) : g < G := by
  have := (fs_some h).2.1
  rw [Bool.and_eq_true] at this
  exact cd_lt this.1
theorem uz_lt (ok : Nat → Nat → Bool) (G L : Nat) : ∀ l, uz ok G L l < 2 ^ G := by
  intro l
  induction l with
  | zero => exact Nat.pow_pos (by omega)
  | succ l ih =>
    rw [uz]
    cases e : gc ok G (L - (l + 1)) l (uz ok G L l) with
    | none => exact ih
    | some g => exact pbor ih (gc_lt e)
theorem C_payment {ok : Nat → Nat → Bool} {G L t : Nat} {τ : nS} (hG : G ≤ 8) (hL : L ≤ 8) (ht : t < L) (hK : KN τ ok G L) : ∃ υ, fX0_payment (nI t) τ = some (enc (gc ok G (L - (t + 1)) t (uz ok G L t)), υ) ∧ KN υ ok G L ∧ Fs τ υ := by
  rw [fX0_payment]
  exact ploopS (fun n i τ' => fX0_payment_b4 n (nI t) (nI (uz ok G L i)) (nI i) τ') (fun i τ' => KN τ' ok G L ∧ Fs τ τ') (fun o => ∃ υ, o = some (enc (gc ok G (L - (t + 1)) t (uz ok G L t)), υ) ∧ KN υ ok G L ∧ Fs τ υ) t
    (fun n τ' hI => by
      have c' : nI t ≤ nI t := by rw [ple (by omega) (by omega)]; omega
      obtain ⟨υ, s1, s2, s3⟩ := C_firstBest (k := L - (t + 1)) hG hL (show t + (L - (t + 1) + 1) = L by omega) (uz_lt ok G L t) hI.1
      rw [fX0_payment_b4, if_pos c', s1, pb2]
      exact ⟨υ, rfl, s2, hI.2.tr s3⟩)
    (fun n i τ' hi hI hk => by
      have c' : ¬ nI t ≤ nI i := by rw [ple (by omega) (by omega)]; omega
      obtain ⟨υ, s1, s2, s3⟩ := C_firstBest (k := L - (i + 1)) hG hL (show i + (L - (i + 1) + 1) = L by omega) (uz_lt ok G L i) hI.1
      rw [fX0_payment_b4, if_neg c', s1, pb2]
      have h9 := hk υ ⟨s2, hI.2.tr s3⟩
      rw [uz] at h9
      cases e : gc ok G (L - (i + 1)) i (uz ok G L i) with
      | none =>
        rw [e] at h9
        rw [if_pos (show enc none < 0 by decide), pnl, pinc]
        exact h9
      | some g =>
        have hg := gc_lt e
        rw [e] at h9
        rw [if_neg (show ¬ enc (some g) < 0 by show ¬ nI g < 0; rw [pneg (by omega)]; simp)]
        have eg : enc (some g) = nI g := rfl
        rw [eg, p2x (by omega), por, pnl, pnl, pinc]
        exact h9) 4096 0 τ (by omega) (by omega) ⟨hK, fun _ _ => rfl⟩
