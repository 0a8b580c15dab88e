/-! PURE 20: two, markets, means -/
def hsb (r : Nat → Int32) (p own oth x y : Nat) : Int32 :=
  (if x = 1 then 3 - wth r p own / 2 else 0) + (if y = 1 then (if x = 1 then wth r p oth / 2 else wth r p oth) else 0)
theorem C_gain {σ : nS} {G P L p u v x y : Nat} (hw : WF (σ 64) G P L) (hc : CT σ 1 (σ 64) G P L) (hp : p < P) (hu : u < G) (hv : v < G) (hx : x < 2) (hy : y < 2) : fX5_gain (nI p) (nI u) (nI v) (nI x) (nI y) σ = some (hsb (σ 64) p u v x y) := by
  have e1 : ∀ a : Int32, 0 + a = a := fun a => Int32.zero_add a
  have e0 : ∀ a : Int32, a + 0 = a := fun a => Int32.add_zero a
  simp only [fX5_gain, fX5_gain_b27, C_worthTo hc hw hp hu, C_worthTo hc hw hp hv, pb, pnl, hsb]
  match x, hx, y, hy with
  | 0, _, 0, _ => simp [show nI 0 = 0 by decide]
  | 0, _, 1, _ => simp [show nI 0 = 0 by decide, show nI 1 = 1 by decide]
  | 1, _, 0, _ => simp [show nI 0 = 0 by decide, show nI 1 = 1 by decide]
  | 1, _, 1, _ => simp [show nI 0 = 0 by decide, show nI 1 = 1 by decide]
theorem M_hasBy {σ : nS} {p q u v x y : Nat} (hp : p < 6) (hu : u < 8) (hv : v < 8) (e1 : fX6_worstOf (nI p) σ = some (nI u)) (e2 : fX6_worstOf (nI q) σ = some (nI v)) (hx : x < 2) (hy : y < 2) : fX6_hasBy (nI p) (nI x) (nI q) (nI y) σ = some (hsb (σ 64) p u v x y) := by
  simp only [fX6_hasBy, fX6_hasBy_b26, e1, e2, M_worthIn hp hu, M_worthIn hp hv, pb, hsb]
  match x, hx, y, hy with
  | 0, _, 0, _ => simp [show nI 0 = 0 by decide]
  | 0, _, 1, _ => simp [show nI 0 = 0 by decide, show nI 1 = 1 by decide]
  | 1, _, 0, _ => simp [show nI 0 = 0 by decide, show nI 1 = 1 by decide]
  | 1, _, 1, _ => simp [show nI 0 = 0 by decide, show nI 1 = 1 by decide]
def cnt2 (r : Nat → Int32) (p own oth x y : Nat) : Bool := !decide (hsb r p own oth x y < hsb r p own oth (1 - x) y)
theorem C_isContent {σ : nS} {G P L p u v x y : Nat} (hw : WF (σ 64) G P L) (hc : CT σ 1 (σ 64) G P L) (hp : p < P) (hu : u < G) (hv : v < G) (hx : x < 2) (hy : y < 2) : fX5_isContent (nI p) (nI u) (nI v) (nI x) (nI y) σ = some (bi (cnt2 (σ 64) p u v x y)) := by
  rw [fX5_isContent, C_gain hw hc hp hu hv hx hy, pb, pl1, pk_sub (show x ≤ 1 by omega), C_gain hw hc hp hu hv (show 1 - x < 2 by omega) hy, pb, cnt2]
  cases h : decide (hsb (σ 64) p u v x y < hsb (σ 64) p u v (1 - x) y) with
  | true => rw [if_pos (of_decide_eq_true h)]; rfl
  | false => rw [if_neg (of_decide_eq_false h)]; rfl
theorem p10 (x y : Nat) : (10 : Int32) * nI x + nI y = nI (10 * x + y) := by rw [pl10, pmul, padd]
theorem C_two90 {σ : nS} {s : Int32 → Int32 → Int32 → Int32 → Int32 → nS → Option Int32} {G P L a b u v x : Nat} (hw : WF (σ 64) G P L) (hc : CT σ 1 (σ 64) G P L) (ha : a < P) (hb : b < P) (hu : u < G) (hv : v < G) (hx : x < 2) :
    fX5_two_b90 s 4096 (nI a) (nI b) (nI u) (nI v) (nI x) (nI 0) σ = if (cnt2 (σ 64) a u v x 0 && cnt2 (σ 64) b v u 0 x) = true then some (nI (10 * x + 0)) else if (cnt2 (σ 64) a u v x 1 && cnt2 (σ 64) b v u 1 x) = true then some (nI (10 * x + 1)) else s (nI a) (nI b) (nI u) (nI v) (nI (x + 1)) σ := by
  have st : ∀ n y, y < 2 → fX5_two_b90 s (n + 1) (nI a) (nI b) (nI u) (nI v) (nI x) (nI y) σ = if (cnt2 (σ 64) a u v x y && cnt2 (σ 64) b v u y x) = true then some (nI (10 * x + y)) else fX5_two_b90 s n (nI a) (nI b) (nI u) (nI v) (nI x) (nI (y + 1)) σ := by
    intro n y hy
    have c' : ¬ (1 : Int32) < nI y := by rw [pl1, plt (by omega) (by omega)]; omega
    rw [fX5_two_b90, if_neg c', C_isContent hw hc ha hu hv hx hy, pb, C_isContent hw hc hb hv hu hy hx, pb, p10]
    cases cnt2 (σ 64) a u v x y with
    | false => simp only [bif0, if_true, pnl, pinc, Bool.false_and, Bool.false_eq_true, if_false]
    | true =>
      cases cnt2 (σ 64) b v u y x with
      | false => simp only [bif0, bit0, if_true, if_false, pnl, pinc, Bool.and_false, Bool.false_eq_true]
      | true => simp only [bit0, if_true, if_false, Bool.and_true]
  have en : fX5_two_b90 s 4094 (nI a) (nI b) (nI u) (nI v) (nI x) (nI (0 + 1 + 1)) σ = s (nI a) (nI b) (nI u) (nI v) (nI (x + 1)) σ := by
    rw [fX5_two_b90, if_pos (by decide), pnl, pinc]
  rw [st 4095 0 (by omega), st 4094 (0 + 1) (by omega), en]
theorem M_two44 {σ : nS} {a b u v k n : Nat} (ha : a < 6) (hb : b < 6) (hu : u < 8) (hv : v < 8) (e1 : fX6_worstOf (nI a) σ = some (nI u)) (e2 : fX6_worstOf (nI b) σ = some (nI v)) (hk : k < 4) :
    fX6_two_b44 (n + 1) (nI a) (nI b) (nI k) σ = if (cnt2 (σ 64) a u v (k / 2) (k % 2) && cnt2 (σ 64) b v u (k % 2) (k / 2)) = true then some (nI (10 * (k / 2) + k % 2)) else fX6_two_b44 n (nI a) (nI b) (nI (k + 1)) σ := by
  have c' : ¬ (4 : Int32) ≤ nI k := by rw [pl4, ple (by omega) (by omega)]; omega
  have hx : k / 2 < 2 := by omega
  have hy : k % 2 < 2 := by omega
  rw [fX6_two_b44, if_neg c', pl2, pk_rem (by omega) (by omega) (by omega), pk_div (by omega) (by omega) (by omega), pnl, pnl, pl1, pk_sub (show k / 2 ≤ 1 by omega), pk_sub (show k % 2 ≤ 1 by omega),
    M_hasBy ha hu hv e1 e2 (show 1 - k / 2 < 2 by omega) hy, pb, M_hasBy ha hu hv e1 e2 hx hy, pb, M_hasBy hb hv hu e2 e1 (show 1 - k % 2 < 2 by omega) hx, pb, M_hasBy hb hv hu e2 e1 hy hx, pb, p10, cnt2, cnt2]
  by_cases q1 : hsb (σ 64) a u v (k / 2) (k % 2) < hsb (σ 64) a u v (1 - k / 2) (k % 2)
  · simp only [if_pos q1, decide_eq_true q1, Bool.not_true, Bool.false_and, Bool.false_eq_true, if_false, pnl, ← pl1, pinc]
  · rw [if_neg q1, decide_eq_false q1]
    by_cases q2 : hsb (σ 64) b v u (k % 2) (k / 2) < hsb (σ 64) b v u (1 - k % 2) (k / 2)
    · simp only [if_pos q2, decide_eq_true q2, Bool.not_true, Bool.and_false, Bool.false_eq_true, if_false, pnl, ← pl1, pinc]
    · simp only [if_neg q2, decide_eq_false q2, Bool.not_false, Bool.and_true, if_true]
theorem S_two {σ : nS} (I : Inv σ) (x y : Int32) : Sff σ (fX5_two x y) (fX6_two x y) := by
  obtain ⟨G, P, L, w, hw, hc, h3, h4, hG, hP, hL⟩ := I.1.get
  simp only [Sff, fX5_two, fX6_two, C_isPerson x hc.2.1 (show P ≤ 8 by omega), M_isPerson x hw.2.2.2.2.1 (show P ≤ 8 by omega), C_isPerson y hc.2.1 (show P ≤ 8 by omega), M_isPerson y hw.2.2.2.2.1 (show P ≤ 8 by omega), pb]
  cases h : decide (nin x P) with
  | false => simp only [bif0, if_true]; exact ⟨_, rfl, rfl⟩
  | true =>
    obtain ⟨a, ha, rfl⟩ := gtn h (by omega)
    simp only [bit0, if_false]
    cases h2 : decide (nin y P) with
    | false => simp only [bif0, if_true]; exact ⟨_, rfl, rfl⟩
    | true =>
      obtain ⟨b, hb, rfl⟩ := gtn h2 (by omega)
      simp only [bit0, if_false]
      by_cases c : nI a = nI b
      · rw [if_pos c, if_pos c]; exact ⟨_, rfl, rfl⟩
      · rw [if_neg c, if_neg c]
        simp only [C_goodsHad hc hw, pb, C_least hc hw ha (show w < 2147483648 by omega) h3, C_least hc hw hb (show w < 2147483648 by omega) h3]
        have ea := M_worstOf hw ha
        have eb := M_worstOf hw hb
        have oa := bst_ok (ownd (σ 64) a) (fun g b => decide (wth (σ 64) a g < wth (σ 64) a b)) G
        have ob := bst_ok (ownd (σ 64) b) (fun g c => decide (wth (σ 64) b g < wth (σ 64) b c)) G
        rw [ea, pb]
        cases qa : bst (ownd (σ 64) a) (fun g b => decide (wth (σ 64) a g < wth (σ 64) a b)) G with
        | none =>
          rw [qa] at ea
          simp only [enc, show (-4 : Int32) < 0 by decide, if_true]
          exact ⟨_, rfl, rfl⟩
        | some u =>
          rw [qa] at ea
          have hu := (oa u qa).1
          simp only [enc, pneg (show u < 2147483648 by omega), if_false]
          rw [eb, pb]
          cases qb : bst (ownd (σ 64) b) (fun g c => decide (wth (σ 64) b g < wth (σ 64) b c)) G with
          | none =>
            simp only [enc, show ¬ (0 : Int32) ≤ -4 by decide, if_false]
            exact ⟨_, rfl, rfl⟩
          | some v =>
            rw [qb] at eb
            have hv := (ob v qb).1
            simp only [enc, pge0 (show v < 2147483648 by omega), if_true]
            have c81 : ∀ n x, x < 2 → fX5_two_b81 (n + 1) (nI a) (nI b) (nI u) (nI v) (nI x) σ = if (cnt2 (σ 64) a u v x 0 && cnt2 (σ 64) b v u 0 x) = true then some (nI (10 * x + 0)) else if (cnt2 (σ 64) a u v x 1 && cnt2 (σ 64) b v u 1 x) = true then some (nI (10 * x + 1)) else fX5_two_b81 n (nI a) (nI b) (nI u) (nI v) (nI (x + 1)) σ := by
              intro n x hx
              have c' : ¬ (1 : Int32) < nI x := by rw [pl1, plt (by omega) (by omega)]; omega
              rw [fX5_two_b81, if_neg c', pl0, C_two90 hw hc ha hb hu hv hx]
            have ce : fX5_two_b81 4094 (nI a) (nI b) (nI u) (nI v) (nI (0 + 1 + 1)) σ = some (-4) := by
              rw [fX5_two_b81, if_pos (by decide)]
            have me : fX6_two_b44 4092 (nI a) (nI b) (nI (0 + 1 + 1 + 1 + 1)) σ = some (-4) := by
              rw [fX6_two_b44, if_pos (by decide)]
            rw [pl0, c81 4095 0 (by omega), c81 4094 (0 + 1) (by omega), ce]
            rw [M_two44 (show a < 6 by omega) (show b < 6 by omega) (show u < 8 by omega) (show v < 8 by omega) ea eb (show 0 < 4 by omega), M_two44 (show a < 6 by omega) (show b < 6 by omega) (show u < 8 by omega) (show v < 8 by omega) ea eb (show 0 + 1 < 4 by omega), M_two44 (show a < 6 by omega) (show b < 6 by omega) (show u < 8 by omega) (show v < 8 by omega) ea eb (show 0 + 1 + 1 < 4 by omega), M_two44 (show a < 6 by omega) (show b < 6 by omega) (show u < 8 by omega) (show v < 8 by omega) ea eb (show 0 + 1 + 1 + 1 < 4 by omega), me]
            simp only [Nat.zero_add, show 0 / 2 = 0 by rfl, show 0 % 2 = 0 by rfl, show 1 / 2 = 0 by rfl, show 1 % 2 = 1 by rfl, show 1 + 1 = 2 by rfl, show 2 + 1 = 3 by rfl, show 2 / 2 = 1 by rfl, show 2 % 2 = 0 by rfl, show 3 / 2 = 1 by rfl, show 3 % 2 = 1 by rfl]
            generalize (cnt2 (σ 64) a u v 0 0 && cnt2 (σ 64) b v u 0 0) = k0
            generalize (cnt2 (σ 64) a u v 0 1 && cnt2 (σ 64) b v u 1 0) = k1
            generalize (cnt2 (σ 64) a u v 1 0 && cnt2 (σ 64) b v u 0 1) = k2
            generalize (cnt2 (σ 64) a u v 1 1 && cnt2 (σ 64) b v u 1 1) = k3
            cases k0 <;> cases k1 <;> cases k2 <;> cases k3 <;> exact ⟨_, rfl, rfl⟩
