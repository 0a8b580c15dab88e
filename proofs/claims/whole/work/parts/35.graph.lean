/-! PURE 26: steps in a graph of at most 8 points -/
def anyb (f : Nat → Bool) : Nat → Bool
  | 0 => false
  | n + 1 => anyb f n || f n
theorem anyb_iff (f : Nat → Bool) : ∀ n, anyb f n = true ↔ ∃ i, i < n ∧ f i = true := by
  intro n
  induction n with
  | zero => simp [anyb]
  | succ n ih =>
    rw [anyb, Bool.or_eq_true, ih]
    constructor
    · rintro (⟨i, h1, h2⟩ | h)
      · exact ⟨i, by omega, h2⟩
      · exact ⟨n, by omega, h⟩
    · rintro ⟨i, h1, h2⟩
      by_cases e : i = n
      · subst e; exact Or.inr h2
      · exact Or.inl ⟨i, by omega, h2⟩
/-- the first below n -/
def fs (f : Nat → Bool) (n : Nat) : Option Nat := bst f (fun _ _ => false) n
theorem fs_s (f : Nat → Bool) (n : Nat) : fs f (n + 1) = match fs f n with | none => if f n = true then some n else none | some b => some b := by
  rw [fs, fs, bst]
  cases bst f (fun _ _ => false) n with
  | none => rfl
  | some b => simp
theorem fs_none {f : Nat → Bool} : ∀ {n}, fs f n = none → ∀ i, i < n → f i = false := by
  intro n
  induction n with
  | zero => intro _ i h; omega
  | succ n ih =>
    intro h i hi
    rw [fs_s] at h
    cases e : fs f n with
    | none =>
      rw [e] at h
      simp only at h
      by_cases c : i = n
      · subst c
        cases q : f i with
        | false => rfl
        | true => rw [q, if_pos rfl] at h; cases h
      · exact ih e i (by omega)
    | some b => rw [e] at h; cases h
theorem fs_some {f : Nat → Bool} : ∀ {n m}, fs f n = some m → m < n ∧ f m = true ∧ ∀ i, i < m → f i = false := by
  intro n
  induction n with
  | zero => intro m h; cases h
  | succ n ih =>
    intro m h
    rw [fs_s] at h
    cases e : fs f n with
    | none =>
      rw [e] at h
      simp only at h
      split at h
      · rename_i q; cases h; exact ⟨by omega, q, fs_none e⟩
      · cases h
    | some b =>
      rw [e] at h
      cases h
      obtain ⟨h1, h2, h3⟩ := ih e
      exact ⟨by omega, h2, h3⟩
theorem fs_eq {f : Nat → Bool} {n m : Nat} (h1 : m < n) (h2 : f m = true) (h3 : ∀ i, i < m → f i = false) : fs f n = some m := by
  cases e : fs f n with
  | none => rw [fs_none e m h1] at h2; cases h2
  | some k =>
    obtain ⟨a1, a2, a3⟩ := fs_some e
    by_cases c : k < m
    · rw [h3 k c] at a2; cases a2
    · by_cases c2 : m < k
      · rw [a3 m c2] at h2; cases h2
      · congr 1; omega
theorem fs_eqn {f : Nat → Bool} {n : Nat} (h : ∀ i, i < n → f i = false) : fs f n = none := by
  cases e : fs f n with
  | none => rfl
  | some k => obtain ⟨a1, a2, -⟩ := fs_some e; rw [h k a1] at a2; cases a2
theorem fs_congr {f g : Nat → Bool} {n : Nat} (h : ∀ i, i < n → f i = g i) : fs f n = fs g n := by
  cases e : fs f n with
  | none => exact (fs_eqn (fun i hi => by rw [← h i hi]; exact fs_none e i hi)).symm
  | some k =>
    obtain ⟨a1, a2, a3⟩ := fs_some e
    exact (fs_eq a1 (by rw [← h k a1]; exact a2) (fun i hi => by rw [← h i (by omega)]; exact a3 i hi)).symm
/-- reached in at most n steps -/
def fr (W : Nat → Nat → Bool) (G x : Nat) : Nat → Nat → Bool
  | 0, y => decide (y = x)
  | n + 1, y => fr W G x n y || anyb (fun a => fr W G x n a && W a y) G
theorem fr_s (W : Nat → Nat → Bool) (G x n y : Nat) : fr W G x (n + 1) y = (fr W G x n y || anyb (fun a => fr W G x n a && W a y) G) := rfl
/-- a walk of just k steps -/
def wk (W : Nat → Nat → Bool) (G : Nat) : Nat → Nat → Nat → Prop
  | 0, x, y => y = x
  | k + 1, x, y => ∃ a, a < G ∧ wk W G k x a ∧ W a y = true
theorem fr_iff {W : Nat → Nat → Bool} {G x : Nat} : ∀ n y, fr W G x n y = true ↔ ∃ k, k ≤ n ∧ wk W G k x y := by
  intro n
  induction n with
  | zero =>
    intro y
    rw [fr, decide_eq_true_eq]
    constructor
    · intro h; exact ⟨0, Nat.le_refl 0, h⟩
    · rintro ⟨k, h1, h2⟩
      obtain rfl : k = 0 := by omega
      exact h2
  | succ n ih =>
    intro y
    rw [fr_s, Bool.or_eq_true, ih, anyb_iff]
    constructor
    · rintro (⟨k, h1, h2⟩ | ⟨a, h1, h2⟩)
      · exact ⟨k, by omega, h2⟩
      · rw [Bool.and_eq_true, ih] at h2
        obtain ⟨⟨k, h3, h4⟩, h5⟩ := h2
        exact ⟨k + 1, by omega, a, h1, h4, h5⟩
    · rintro ⟨k, h1, h2⟩
      by_cases c : k ≤ n
      · exact Or.inl ⟨k, c, h2⟩
      · obtain rfl : k = n + 1 := by omega
        obtain ⟨a, h3, h4, h5⟩ := h2
        refine Or.inr ⟨a, h3, ?_⟩
        rw [Bool.and_eq_true, ih]
        exact ⟨⟨n, Nat.le_refl n, h4⟩, h5⟩
theorem wk_back {W : Nat → Nat → Bool} {G : Nat} : ∀ k x y, x < G → y < G → (wk W G (k + 1) x y ↔ ∃ a, a < G ∧ W x a = true ∧ wk W G k a y) := by
  intro k
  induction k with
  | zero =>
    intro x y hx hy
    constructor
    · rintro ⟨a, h1, h2, h3⟩
      have h2 : a = x := h2
      subst h2
      exact ⟨y, hy, h3, rfl⟩
    · rintro ⟨a, h1, h2, h3⟩
      have h3 : y = a := h3
      subst h3
      exact ⟨x, hx, rfl, h2⟩
  | succ k ih =>
    intro x y hx hy
    constructor
    · rintro ⟨a, h1, h2, h3⟩
      obtain ⟨b, b1, b2, b3⟩ := (ih x a hx h1).mp h2
      exact ⟨b, b1, b2, a, h1, b3, h3⟩
    · rintro ⟨b, b1, b2, a, h1, b3, h3⟩
      exact ⟨a, h1, (ih x a hx h1).mpr ⟨b, b1, b2, b3⟩, h3⟩
theorem fr_mono {W : Nat → Nat → Bool} {G x : Nat} {n m y : Nat} (h : n ≤ m) (e : fr W G x n y = true) : fr W G x m y = true := by
  obtain ⟨k, h1, h2⟩ := (fr_iff n y).mp e
  exact (fr_iff m y).mpr ⟨k, by omega, h2⟩
/-- how many below n -/
def cn (f : Nat → Bool) : Nat → Nat
  | 0 => 0
  | n + 1 => if f n = true then cn f n + 1 else cn f n
theorem cn_le (f : Nat → Bool) : ∀ n, cn f n ≤ n := by
  intro n
  induction n with
  | zero => exact Nat.le_refl 0
  | succ n ih => rw [cn]; split <;> omega
theorem cn_mono {f g : Nat → Bool} : ∀ n, (∀ i, i < n → f i = true → g i = true) → cn f n ≤ cn g n := by
  intro n
  induction n with
  | zero => intro _; exact Nat.le_refl 0
  | succ n ih =>
    intro h
    have := ih (fun i hi => h i (by omega))
    rw [cn, cn]
    cases e : f n with
    | false =>
      rw [if_neg (by simp)]
      split <;> omega
    | true =>
      rw [if_pos rfl, if_pos (h n (by omega) e)]
      omega
theorem cn_lt {f g : Nat → Bool} {j : Nat} : ∀ n, (∀ i, i < n → f i = true → g i = true) → j < n → f j = false → g j = true → cn f n + 1 ≤ cn g n := by
  intro n
  induction n with
  | zero => intro _ h; omega
  | succ n ih =>
    intro h hj h1 h2
    rw [cn, cn]
    by_cases c : j = n
    · subst c
      have := cn_mono (f := f) (g := g) j (fun i hi => h i (by omega))
      rw [h1, h2, if_neg (by simp), if_pos rfl]
      omega
    · have := ih (fun i hi => h i (by omega)) (by omega) h1 h2
      cases e : f n with
      | false =>
        rw [if_neg (by simp)]
        split <;> omega
      | true =>
        rw [if_pos rfl, if_pos (h n (by omega) e)]
        omega
theorem fr_stable {W : Nat → Nat → Bool} {G x m : Nat} (h : ∀ y, y < G → fr W G x m y = fr W G x (m + 1) y) : ∀ k y, y < G → fr W G x (m + k) y = fr W G x m y := by
  intro k
  induction k with
  | zero => intro y _; rfl
  | succ k ih =>
    intro y hy
    have e : fr W G x (m + k + 1) y = fr W G x (m + 1) y := by
      rw [fr_s, fr_s, ih y hy]
      congr 1
      cases q : anyb (fun a => fr W G x m a && W a y) G with
      | true =>
        obtain ⟨a, h1, h2⟩ := (anyb_iff _ G).mp q
        exact (anyb_iff _ G).mpr ⟨a, h1, by rw [ih a h1]; exact h2⟩
      | false =>
        cases q2 : anyb (fun a => fr W G x (m + k) a && W a y) G with
        | false => rfl
        | true =>
          obtain ⟨a, h1, h2⟩ := (anyb_iff _ G).mp q2
          have : anyb (fun a => fr W G x m a && W a y) G = true := (anyb_iff _ G).mpr ⟨a, h1, by rw [← ih a h1]; exact h2⟩
          rw [q] at this; cases this
    rw [show m + (k + 1) = m + k + 1 by omega, e, h y hy]
theorem fr_pig {W : Nat → Nat → Bool} {G x : Nat} (hx : x < G) {n y : Nat} (hy : y < G) (h : fr W G x n y = true) : fr W G x (G - 1) y = true := by
  have A : ∀ n, (∃ m, m < n ∧ ∀ y, y < G → fr W G x m y = fr W G x (m + 1) y) ∨ n + 1 ≤ cn (fr W G x n) G := by
    intro n
    induction n with
    | zero =>
      refine Or.inr ?_
      have h1 : cn (fun _ => false) G = 0 := by
        clear h hx hy
        induction G with
        | zero => rfl
        | succ G ih => rw [cn, if_neg (by simp)]; exact ih
      have := cn_lt (f := fun _ => false) (g := fr W G x 0) (j := x) G (fun i _ e => by cases e) hx rfl (by rw [fr]; simp)
      omega
    | succ n ih =>
      rcases ih with ⟨m, h1, h2⟩ | h1
      · exact Or.inl ⟨m, by omega, h2⟩
      · rcases fstbad (fun y => fr W G x n y = fr W G x (n + 1) y) G with h2 | ⟨z, z1, z2, -⟩
        · exact Or.inl ⟨n, by omega, h2⟩
        · refine Or.inr ?_
          have hm : ∀ i, i < G → fr W G x n i = true → fr W G x (n + 1) i = true := fun i _ e => fr_mono (by omega) e
          have q1 : fr W G x n z = false := by
            cases q : fr W G x n z with
            | false => rfl
            | true => exact absurd (by rw [q, hm z z1 q]) z2
          have q2 : fr W G x (n + 1) z = true := by
            cases q : fr W G x (n + 1) z with
            | true => rfl
            | false => exact absurd (by rw [q, q1]) z2
          have := cn_lt G hm z1 q1 q2
          omega
  rcases A G with ⟨m, h1, h2⟩ | h1
  · by_cases c : n ≤ G - 1
    · exact fr_mono c h
    · have e1 := fr_stable h2 (n - m) y hy
      rw [show m + (n - m) = n by omega, h] at e1
      exact fr_mono (show m ≤ G - 1 by omega) e1.symm
  · have := cn_le (fr W G x G) G
    omega
/-- the fewest steps -/
def stp (W : Nat → Nat → Bool) (G x y : Nat) : Option Nat := fs (fun n => fr W G x n y) 8
theorem stp_G {W : Nat → Nat → Bool} {G x y : Nat} (hx : x < G) (hy : y < G) (hG : G ≤ 8) : fs (fun n => fr W G x n y) G = stp W G x y := by
  rw [stp]
  cases e : fs (fun n => fr W G x n y) G with
  | some m =>
    obtain ⟨a1, a2, a3⟩ := fs_some e
    exact (fs_eq (f := fun n => fr W G x n y) (show m < 8 by omega) a2 a3).symm
  | none =>
    refine (fs_eqn (fun i _ => ?_)).symm
    cases q : fr W G x i y with
    | false => rfl
    | true =>
      have h1 := fr_pig hx hy q
      rw [fs_none e (G - 1) (by omega)] at h1
      cases h1
theorem bset_one {G x : Nat} (hx : x < G) : bset (fun y => decide (y = x)) G = 2 ^ x := by
  symm
  apply bset_ext
  intro i
  rw [Nat.testBit_two_pow]
  by_cases c : i = x
  · subst c; simp [hx]
  · rw [decide_eq_false (show ¬ x = i by omega), decide_eq_false c]; simp
theorem bset_or (f g : Nat → Bool) (n : Nat) : bset f n ||| bset g n = bset (fun i => f i || g i) n := by
  apply bset_ext
  intro i
  rw [Nat.testBit_or, bset_bit, bset_bit]
  cases decide (i < n) <;> simp
