/-! PURE 33: the first list that fits, kind by kind, in order -/
def updN (f : Nat → Nat) (k x : Nat) : Nat → Nat := fun j => if j = k then x else f j
theorem updN_s (f : Nat → Nat) (k x : Nat) : updN f k x k = x := by simp [updN]
theorem updN_n (f : Nat → Nat) {k j : Nat} (x : Nat) (h : j ≠ k) : updN f k x j = f j := by simp [updN, h]
def fsf (h : Nat → Option (Nat → Nat)) : Nat → Nat → Option (Nat → Nat)
  | _, 0 => none
  | c, d + 1 => match h c with | some g => some g | none => fsf h (c + 1) d
theorem fsf_s (h : Nat → Option (Nat → Nat)) (c d : Nat) : fsf h c (d + 1) = match h c with | some g => some g | none => fsf h (c + 1) d := rfl
theorem fsf_none {h : Nat → Option (Nat → Nat)} : ∀ d c, fsf h c d = none → ∀ i, c ≤ i → i < c + d → h i = none := by
  intro d
  induction d with
  | zero => intro c _ i h1 h2; omega
  | succ d ih =>
    intro c e i h1 h2
    rw [fsf_s] at e
    cases q : h c with
    | some g => rw [q] at e; cases e
    | none =>
      rw [q] at e
      by_cases ci : i = c
      · rw [ci]; exact q
      · exact ih (c + 1) e i (by omega) (by omega)
theorem fsf_congr {h h' : Nat → Option (Nat → Nat)} : ∀ d c, (∀ i, c ≤ i → i < c + d → h i = h' i) → fsf h c d = fsf h' c d := by
  intro d
  induction d with
  | zero => intro c _; rfl
  | succ d ih =>
    intro c e
    rw [fsf_s, fsf_s, e c (by omega) (by omega), ih (c + 1) (fun i h1 h2 => e i (by omega) (by omega))]
theorem fsf_nones {h : Nat → Option (Nat → Nat)} : ∀ d c, (∀ i, c ≤ i → i < c + d → h i = none) → fsf h c d = none := by
  intro d
  induction d with
  | zero => intro c _; rfl
  | succ d ih =>
    intro c e
    rw [fsf_s, e c (by omega) (by omega)]
    exact ih (c + 1) (fun i h1 h2 => e i (by omega) (by omega))
/-- only one of them may be -/
theorem fsf_one {h : Nat → Option (Nat → Nat)} {v : Nat} : ∀ d c, c ≤ v → v < c + d → (∀ i, i ≠ v → h i = none) → fsf h c d = h v := by
  intro d
  induction d with
  | zero => intro c h1 h2; omega
  | succ d ih =>
    intro c h1 h2 e
    rw [fsf_s]
    by_cases q : c = v
    · subst q
      cases q2 : h c with
      | some g => rfl
      | none => exact fsf_nones d (c + 1) (fun i h1 h2 => e i (by omega))
    · rw [e c q]
      exact ih (c + 1) (by omega) (by omega) e
def sol (F : (Nat → Nat) → Bool) (acc : Nat → Bool) (most : Nat) : Nat → Nat → (Nat → Nat) → Option (Nat → Nat)
  | 0, m, f => if (F f && acc m) = true then some f else none
  | r + 1, m, f => fsf (fun c => sol F acc most r (if c = m then m + 1 else m) (updN f (7 - r) c)) 0 (if m + 1 ≤ most then m + 1 else most)
theorem sol_s (F : (Nat → Nat) → Bool) (acc : Nat → Bool) (most r m : Nat) (f : Nat → Nat) : sol F acc most (r + 1) m f = fsf (fun c => sol F acc most r (if c = m then m + 1 else m) (updN f (7 - r) c)) 0 (if m + 1 ≤ most then m + 1 else most) := rfl
theorem sol_none {F : (Nat → Nat) → Bool} {acc : Nat → Bool} {most : Nat} : ∀ r m f, r ≤ 8 → (∀ g, (∀ j, j < 8 - r → g j = f j) → F g = false) → sol F acc most r m f = none := by
  intro r
  induction r with
  | zero => intro m f _ h; rw [sol, h f (fun _ _ => rfl)]; rfl
  | succ r ih =>
    intro m f hr h
    rw [sol_s]
    refine fsf_nones _ _ (fun c _ _ => ih _ _ (by omega) (fun g hg => h g (fun j hj => ?_)))
    rw [hg j (by omega), updN_n _ _ (by omega)]
def exl (F : (Nat → Nat) → Bool) : Nat → Nat → (Nat → Nat) → Nat → Prop
  | 0, m, f, t => F f = true ∧ m = t
  | r + 1, m, f, t => ∃ c, c ≤ m ∧ exl F r (if c = m then m + 1 else m) (updN f (7 - r) c) t
theorem exl_ge {F : (Nat → Nat) → Bool} : ∀ r m f t, exl F r m f t → m ≤ t := by
  intro r
  induction r with
  | zero => rintro m f t ⟨-, h⟩; omega
  | succ r ih =>
    rintro m f t ⟨c, h1, h2⟩
    have := ih _ _ _ h2
    split at this <;> omega
theorem solA_none {F : (Nat → Nat) → Bool} {most : Nat} : ∀ r m f, m ≤ most → sol F (fun _ => true) most r m f = none → ∀ t, t ≤ most → ¬ exl F r m f t := by
  intro r
  induction r with
  | zero =>
    intro m f _ h t _ hx
    rw [sol, hx.1] at h
    cases h
  | succ r ih =>
    intro m f hm h t ht hx
    obtain ⟨c, h1, h2⟩ := hx
    have hge := exl_ge _ _ _ _ h2
    rw [sol_s] at h
    have hc : c < most := by split at hge <;> omega
    have h3 := fsf_none _ _ h c (by omega) (by split <;> omega)
    exact ih _ _ (by split at hge <;> split <;> omega) h3 t ht h2
theorem sol_AB {F : (Nat → Nat) → Bool} {n : Nat} : ∀ r m f, m ≤ n → (∀ t, t < n → ¬ exl F r m f t) → sol F (fun _ => true) n r m f = sol F (fun m => decide (m = n)) n r m f := by
  intro r
  induction r with
  | zero =>
    intro m f hm h
    rw [sol, sol]
    cases e : F f with
    | false => rfl
    | true =>
      by_cases c : m = n
      · rw [decide_eq_true c]
      · exact absurd ⟨e, rfl⟩ (h m (by omega))
  | succ r ih =>
    intro m f hm h
    rw [sol_s, sol_s]
    refine fsf_congr _ _ (fun c _ h2 => ih _ _ ?_ (fun t ht hx => h t ht ⟨c, ?_, hx⟩))
    · by_cases q : c = m
      · rw [if_pos q]; split at h2 <;> omega
      · rw [if_neg q]; exact hm
    · split at h2 <;> omega
theorem exl_0 {F : (Nat → Nat) → Bool} {f : Nat → Nat} : ¬ exl F 8 0 f 0 := by
  rintro ⟨c, h1, h2⟩
  have := exl_ge _ _ _ _ h2
  rw [if_pos (by omega)] at this
  omega
