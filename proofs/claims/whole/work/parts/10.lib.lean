/-! PURE 1: numbers. nI n is an Int32 by its number -/
theorem pc0 {n : Nat} (h : n < 2147483648) : (nI n).toNatClampNeg = n := nI_clamp (by omega)
theorem pti {n : Nat} (h : n < 2147483648) : (nI n).toInt = (n : Int) := nI_toInt (by omega)
theorem ple {a b : Nat} (ha : a < 2147483648) (hb : b < 2147483648) : (nI a ≤ nI b) = (a ≤ b) := propext (nI_leI (by omega) (by omega))
theorem plt {a b : Nat} (ha : a < 2147483648) (hb : b < 2147483648) : (nI a < nI b) = (a < b) := propext (nI_ltI (by omega) (by omega))
theorem peq {a b : Nat} (ha : a < 2147483648) (hb : b < 2147483648) : (nI a = nI b) = (a = b) := propext (nI_eq (by omega) (by omega))
theorem pnin {a n : Nat} (ha : a < 2147483648) : nin (nI a) n = (a < n) := by
  apply propext
  unfold nin
  rw [pti ha]
  omega
theorem pnin0 {a n : Nat} (ha : a < 2147483648) (h : a < n) : nin (nI a) n := by rw [pnin ha]; exact h
theorem pl0 : (0 : Int32) = nI 0 := by decide
theorem pl1 : (1 : Int32) = nI 1 := by decide
theorem pl2 : (2 : Int32) = nI 2 := by decide
theorem pl3 : (3 : Int32) = nI 3 := by decide
theorem pl4 : (4 : Int32) = nI 4 := by decide
theorem pl5 : (5 : Int32) = nI 5 := by decide
theorem pl6 : (6 : Int32) = nI 6 := by decide
theorem pl7 : (7 : Int32) = nI 7 := by decide
theorem pl8 : (8 : Int32) = nI 8 := by decide
theorem pl9 : (9 : Int32) = nI 9 := by decide
theorem pl10 : (10 : Int32) = nI 10 := by decide
theorem pinc (a : Nat) : nI a + (1 : Int32) = nI (a + 1) := nI_1 a
/-- an int in range is the int of a number -/
theorem pof {x : Int32} {n : Nat} (h : nin x n) (hn : n < 2147483648) : ∃ a, a < n ∧ x = nI a := by
  obtain ⟨j, h1, h2⟩ := vp_in_of (nin_vp h) (by omega)
  exact ⟨j, h1, h2⟩
theorem pnin_iff {x : Int32} {n : Nat} (hn : n < 2147483648) : nin x n ↔ (¬ x < 0 ∧ ¬ nI n ≤ x) := by
  unfold nin
  rw [Int32.lt_iff_toInt_lt, Int32.le_iff_toInt_le, pti hn, Int32.toInt_zero]
  omega
theorem pnl {α β : Type} (a : α) (f : α → β) : nl a f = f a := rfl
theorem pb {α β : Type} (a : α) (f : α → Option β) : (some a).bind f = f a := rfl
theorem pb2 {α β : Type} (a : α) (t : nS) (f : α → nS → Option β) : nb2 (some (a, t)) f = f a t := rfl
/-- loops over 0 .. e - 1 -/
theorem ploop {α : Type} (L : Nat → Nat → α) (res : α) (e : Nat) (hend : ∀ n, L (n + 1) e = res) (hstep : ∀ n i, i < e → L (n + 1) i = L n (i + 1)) : ∀ n i, i ≤ e → e < n + i → L n i = res := by
  intro n
  induction n with
  | zero => intro i h1 h2; omega
  | succ n ih =>
    intro i h1 h2
    rcases Nat.lt_or_ge i e with h | h
    · rw [hstep n i h]
      exact ih (i + 1) h (by omega)
    · rw [show i = e by omega]
      exact hend n
/-- the bits of a set of numbers below n -/
def bits (f : Nat → Bool) : Nat → Int32
  | 0 => 0
  | n + 1 => if f n = true then bits f n ||| ((1 : Int32) <<< (nI n &&& 31)) else bits f n
theorem pmul (a b : Nat) : nI a * nI b = nI (a * b) := pk_mul a b
theorem padd (a b : Nat) : nI a + nI b = nI (a + b) := nI_add a b
theorem psub1 {a : Nat} (h : 0 < a) : nI a - (1 : Int32) = nI (a - 1) := by
  rw [pl1]; exact pk_sub (by omega)
theorem pl28 : (28 : Int32) = nI 28 := by decide
theorem pl34 : (34 : Int32) = nI 34 := by decide
theorem pl66 : (66 : Int32) = nI 66 := by decide
theorem pl74 : (74 : Int32) = nI 74 := by decide
theorem pl100 : (100 : Int32) = nI 100 := by decide
theorem pneg {a : Nat} (ha : a < 2147483648) : (nI a < 0) = False := by
  rw [pl0, plt ha (by omega)]; simp
theorem pge0 {a : Nat} (ha : a < 2147483648) : (0 ≤ nI a) = True := by
  rw [pl0, ple (by omega) ha]; simp
theorem n01i {c : Prop} [Decidable c] : n01 (if c then 1 else 0) := by
  by_cases h : c
  · exact Or.inr (by rw [if_pos h])
  · exact Or.inl (by rw [if_neg h])
/-- nU twice at one cell -/
theorem nUU (σ : nS) (k : Nat) (f g : Nat → Int32) : nU (nU σ k f) k g = nU σ k g := by
  funext j
  by_cases h : j = k
  · simp [nU, h]
  · simp [nU, h]
theorem nUid (σ : nS) (k : Nat) : nU σ k (σ k) = σ := by
  funext j
  by_cases h : j = k
  · subst h; simp [nU]
  · simp [nU, h]
theorem nU_comm (σ : nS) {k j : Nat} (h : k ≠ j) (f g : Nat → Int32) : nU (nU σ k f) j g = nU (nU σ j g) k f := by
  funext q
  by_cases h1 : q = k
  · subst h1; simp [nU, h]
  · by_cases h2 : q = j
    · subst h2; simp [nU, h1]
    · simp [nU, h1, h2]
theorem upd_s (f : Nat → Int32) (k : Nat) (x : Int32) : upd f k x k = x := by simp [upd]
theorem upd_n (f : Nat → Int32) {k j : Nat} (x : Int32) (h : j ≠ k) : upd f k x j = f j := by simp [upd, h]
/-- set of numbers below n as a number -/
def bset (f : Nat → Bool) : Nat → Nat
  | 0 => 0
  | n + 1 => if f n = true then bset f n ||| 2 ^ n else bset f n
theorem bset_lt (f : Nat → Bool) : ∀ n, bset f n < 2 ^ n := by
  intro n
  induction n with
  | zero => simp [bset]
  | succ n ih =>
    rw [bset]
    have h1 : 2 ^ n < 2 ^ (n + 1) := Nat.pow_lt_pow_right (by omega) (by omega)
    by_cases h : f n = true
    · rw [if_pos h]; exact Nat.or_lt_two_pow (by omega) h1
    · rw [if_neg h]; omega
theorem bset_bit (f : Nat → Bool) (i : Nat) : ∀ n, (bset f n).testBit i = (decide (i < n) && f i) := by
  intro n
  induction n with
  | zero => simp [bset]
  | succ n ih =>
    rw [bset]
    by_cases h : f n = true
    · rw [if_pos h, Nat.testBit_or, ih, Nat.testBit_two_pow]
      by_cases h2 : n = i
      · subst h2; simp [h]
      · have : decide (i < n + 1) = decide (i < n) := by congr 1; apply propext; omega
        simp [h2, this]
    · rw [if_neg h, ih]
      by_cases h2 : n = i
      · subst h2; simp at h; simp [h]
      · have : decide (i < n + 1) = decide (i < n) := by congr 1; apply propext; omega
        rw [this]
theorem bset_ext {a : Nat} {f : Nat → Bool} {n : Nat} (h : ∀ i, a.testBit i = (decide (i < n) && f i)) : a = bset f n := Nat.eq_of_testBit_eq (fun i => by rw [h, bset_bit])
theorem bset_congr {f g : Nat → Bool} {n : Nat} (h : ∀ i, i < n → f i = g i) : bset f n = bset g n := by
  apply bset_ext
  intro i
  rw [bset_bit]
  by_cases hi : i < n
  · rw [h i hi]
  · simp [hi]
theorem por (a b : Nat) : nI a ||| nI b = nI (a ||| b) := by
  apply Int32.toBitVec_inj.mp
  show BitVec.ofNat 32 a ||| BitVec.ofNat 32 b = BitVec.ofNat 32 (a ||| b)
  apply BitVec.eq_of_getLsbD_eq
  intro i hi
  simp [BitVec.getLsbD_ofNat, hi]
theorem pand (a b : Nat) : nI a &&& nI b = nI (a &&& b) := by
  apply Int32.toBitVec_inj.mp
  show BitVec.ofNat 32 a &&& BitVec.ofNat 32 b = BitVec.ofNat 32 (a &&& b)
  apply BitVec.eq_of_getLsbD_eq
  intro i hi
  simp [BitVec.getLsbD_ofNat, hi]
theorem pshl : ∀ i, i < 31 → ((1 : Int32) <<< (nI i &&& 31)) = nI (2 ^ i) := by decide +kernel
theorem phas0 : ∀ v, v < 256 → ∀ g, g < 8 → ((nI v >>> (nI g &&& 31)) &&& (1 : Int32)) = nI (if v.testBit g = true then 1 else 0) := by decide +kernel
theorem pclr : ∀ v, v < 256 → ∀ l, l < 8 → (nI v &&& (((1 : Int32) <<< (nI l &&& 31)) ^^^ (-1 : Int32))) = nI (v &&& (255 ^^^ 2 ^ l)) := by decide +kernel
/-- a boolean's int -/
def bi (b : Bool) : Int32 := if b = true then 1 else 0
theorem bi_t : bi true = 1 := rfl
theorem bi_f : bi false = 0 := rfl
theorem bi0 (b : Bool) : (bi b = 0) = (b = false) := by cases b <;> decide
theorem bi0n (b : Bool) : (bi b = nI 0) = (b = false) := by cases b <;> decide
theorem bi1 (b : Bool) : (bi b = 1) = (b = true) := by cases b <;> decide
theorem bi_n (b : Bool) : n01 (bi b) := by cases b <;> decide
theorem bi_if {c : Prop} [Decidable c] : (if c then some (1 : Int32) else some 0) = some (bi (decide c)) := by
  by_cases h : c <;> simp [h, bi]
theorem bi_fi {c : Prop} [Decidable c] : (if c then some (0 : Int32) else some 1) = some (bi (!decide c)) := by
  by_cases h : c <;> simp [h, bi]
theorem phas5 {f : Nat → Bool} {n g : Nat} (σ : nS) (hn : n ≤ 8) (hg : g < 8) : fX5_has (nI (bset f n)) (nI g) σ = some (bi (decide (g < n) && f g)) := by
  have h1 := bset_lt f n
  have h2 : 2 ^ n ≤ 2 ^ 8 := Nat.pow_le_pow_right (by omega) hn
  rw [fX5_has, phas0 _ (by omega) g hg, bset_bit]
  cases decide (g < n) && f g <;> rfl
theorem phas6 {f : Nat → Bool} {n g : Nat} (σ : nS) (hn : n ≤ 8) (hg : g < 8) : fX6_has (nI (bset f n)) (nI g) σ = some (bi (decide (g < n) && f g)) := phas5 σ hn hg
/-- adding one bit -/
theorem pbit {f : Nat → Bool} {n : Nat} (hn : n < 31) (h : f n = true) : nI (bset f n) ||| ((1 : Int32) <<< (nI n &&& 31)) = nI (bset f (n + 1)) := by
  rw [pshl n hn, por, bset, if_pos h]
theorem pbit0 {f : Nat → Bool} {n : Nat} (h : ¬ f n = true) : bset f (n + 1) = bset f n := by rw [bset, if_neg h]
/-- counting bits: both sides count alike -/
def σz : nS := fun _ _ => 0
theorem bits_irr (σ τ : nS) : ∀ n a b c, fX6_bits_b4 n a b c σ = fX6_bits_b4 n a b c τ := by
  intro n
  induction n with
  | zero => intro a b c; rfl
  | succ n ih =>
    intro a b c
    rw [fX6_bits_b4, fX6_bits_b4]
    split
    · rfl
    · exact ih _ _ _
def cnt (v : Nat) : Int32 := (fJ6_bitCount_0f7a4 (nI v) σz).getD 0
theorem pcntJ (σ : nS) (v : Nat) : fJ6_bitCount_0f7a4 (nI v) σ = some (cnt v) := rfl
theorem pcnt6z : ∀ v, v < 256 → fX6_bits_b4 4096 (nI v) 0 0 σz = some (cnt v) := by decide +kernel
theorem pcnt6 (σ : nS) {v : Nat} (h : v < 256) : fX6_bits (nI v) σ = some (cnt v) := by
  rw [fX6_bits, bits_irr σ σz]
  exact pcnt6z v h
theorem p43 (g : Nat) : (4 : Int32) + (3 : Int32) * nI g = nI (4 + 3 * g) := by rw [pl4, pl3, pmul, padd]
theorem p344 (l : Nat) : (34 : Int32) + (4 : Int32) * nI l = nI (34 + 4 * l) := by rw [pl34, pl4, pmul, padd]
theorem p28 (q : Nat) : (28 : Int32) + nI q = nI (28 + q) := by rw [pl28, padd]
theorem p66 (q : Nat) : (66 : Int32) + nI q = nI (66 + q) := by rw [pl66, padd]
theorem pa0 (a : Nat) : nI a + (0 : Int32) = nI a := by rw [pl0, padd]; rfl
theorem pa2 (a : Nat) : nI a + (2 : Int32) = nI (a + 2) := by rw [pl2, padd]
theorem pa3 (a : Nat) : nI a + (3 : Int32) = nI (a + 3) := by rw [pl3, padd]
theorem pk0 : nin (0 : Int32) 74 = True := by decide
theorem pk1 : nin (1 : Int32) 74 = True := by decide
theorem pk2 : nin (2 : Int32) 74 = True := by decide
theorem pk3 : nin (3 : Int32) 74 = True := by decide
theorem tc0 : (0 : Int32).toNatClampNeg = 0 := by decide
theorem tc1 : (1 : Int32).toNatClampNeg = 1 := by decide
theorem tc2 : (2 : Int32).toNatClampNeg = 2 := by decide
theorem tc3 : (3 : Int32).toNatClampNeg = 3 := by decide
