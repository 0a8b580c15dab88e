def rmX6_isIn : Room := { frames := 0, cells := 0, slots := 0, locals := 0 }
theorem ndX6_isIn : yX6_isIn.cls ≠ "java/lang/invoke/MethodHandle" ∧ yX6_isIn.cls ≠ "java/lang/invoke/VarHandle" ∧ (parseMethodDescriptor yX6_isIn.desc).map (fun d => d.parameters.length) = some 3 := by decide +kernel
set_option maxRecDepth 100000 in
set_option maxHeartbeats 4000000 in
theorem mX6_isIn (l : Launch) (D : va_G) (B : nBT) (hB : nInj B) (x0 : Int32) (x1 : Int32) (x2 : Int32) (σ : nS) {r : Int32}  (h : fX6_isIn x0 x1 x2 σ = some r) : nMi l D B yX6_isIn wsX6_isIn rmX6_isIn [.int x0, .int x1, .int x2] σ r σ := by
  refine nmet (cc := cX6_isIn) (maxL := 3) (ret := (some .boolean)) (own := RX6) (av := [.int x0, .int x1, .int x2]) (nQi D B r σ) hB (by decide) rfl rfl (Nat.le_of_ble_eq_true rfl) (fun p e s m args below meth c C0 hr => ?_)
  refine nx_lv (lv' := [(0, .int x0), (1, .int x1), (2, .int x2)]) [0, 1, 2] rfl ?_
  rw [fX6_isIn] at h
  refine nx_iload_n C0 0 dX6_isIn_0 rfl ?_
  refine nx_iload_n C0 1 dX6_isIn_1 rfl ?_
  refine nx_icmp_lt (tgt := 14) C0 dX6_isIn_2 (by decide) (fun q => ?_) (fun q => ?_)
  · have h := nift q h
    refine nx_iconst (v := 0) C0 dX6_isIn_14 (by decide) ?_
    exact nr_z C0 hr (Or.inl rfl) dX6_isIn_15 h
  · have h := niff q h
    refine nx_iload_n C0 0 dX6_isIn_5 rfl ?_
    refine nx_iload_n C0 2 dX6_isIn_6 rfl ?_
    refine nx_icmp_gt (tgt := 14) C0 dX6_isIn_7 (by decide) (fun q => ?_) (fun q => ?_)
    · have h := nift q h
      refine nx_iconst (v := 0) C0 dX6_isIn_14 (by decide) ?_
      exact nr_z C0 hr (Or.inl rfl) dX6_isIn_15 h
    · have h := niff q h
      refine nx_iconst (v := 1) C0 dX6_isIn_10 (by decide) ?_
      refine nx_goto (tgt := 15) C0 dX6_isIn_11 (by decide) ?_
      exact nr_z C0 hr (Or.inr rfl) dX6_isIn_15 h
def rmX6_most : Room := { frames := 0, cells := 0, slots := 0, locals := 0 }
theorem ndX6_most : yX6_most.cls ≠ "java/lang/invoke/MethodHandle" ∧ yX6_most.cls ≠ "java/lang/invoke/VarHandle" ∧ (parseMethodDescriptor yX6_most.desc).map (fun d => d.parameters.length) = some 2 := by decide +kernel
set_option maxRecDepth 100000 in
set_option maxHeartbeats 4000000 in
theorem mX6_most (l : Launch) (D : va_G) (B : nBT) (hB : nInj B) (x0 : Int32) (x1 : Int32) (σ : nS) {r : Int32}  (h : fX6_most x0 x1 σ = some r) : nMi l D B yX6_most wsX6_most rmX6_most [.int x0, .int x1] σ r σ := by
  refine nmet (cc := cX6_most) (maxL := 2) (ret := (some .int)) (own := RX6) (av := [.int x0, .int x1]) (nQi D B r σ) hB (by decide) rfl rfl (Nat.le_of_ble_eq_true rfl) (fun p e s m args below meth c C0 hr => ?_)
  refine nx_lv (lv' := [(0, .int x0), (1, .int x1)]) [0, 1] rfl ?_
  rw [fX6_most] at h
  refine nx_iload_n C0 0 dX6_most_0 rfl ?_
  refine nx_iload_n C0 1 dX6_most_1 rfl ?_
  refine nx_icmp_le (tgt := 9) C0 dX6_most_2 (by decide) (fun q => ?_) (fun q => ?_)
  · have h := nift q h
    refine nx_iload_n C0 1 dX6_most_9 rfl ?_
    exact nr_i C0 hr dX6_most_10 h
  · have h := niff q h
    refine nx_iload_n C0 0 dX6_most_5 rfl ?_
    refine nx_goto (tgt := 10) C0 dX6_most_6 (by decide) ?_
    exact nr_i C0 hr dX6_most_10 h
def rmX6_copies : Room := { frames := 0, cells := 0, slots := 0, locals := 0 }
theorem ndX6_copies : yX6_copies.cls ≠ "java/lang/invoke/MethodHandle" ∧ yX6_copies.cls ≠ "java/lang/invoke/VarHandle" ∧ (parseMethodDescriptor yX6_copies.desc).map (fun d => d.parameters.length) = some 2 := by decide +kernel
set_option maxRecDepth 100000 in
set_option maxHeartbeats 4000000 in
theorem mX6_copies (l : Launch) (D : va_G) (B : nBT) (hB : nInj B) {k0 : Nat} (hk0 : nR k0) {k1 : Nat} (hk1 : nR k1) (σ : nS)  {σ1 : nS} (h : fX6_copies k0 k1 σ = some ((), σ1)) : nMv l D B yX6_copies wsX6_copies rmX6_copies [.ref (na B k0), .ref (na B k1)] σ σ1 := by
  refine nmet (cc := cX6_copies) (maxL := 3) (ret := none) (own := RX6) (av := [.ref (na B k0), .ref (na B k1)]) (nQv D B σ1) hB (by decide) rfl rfl (Nat.le_of_ble_eq_true rfl) (fun p e s m args below meth c C0 hr => ?_)
  have hfX6_copies_b2 : ∀  (n : Nat) (k_0 : Nat) (hk_0 : nR k_0) (k_1 : Nat) (hk_1 : nR k_1) (a2 : Int32) (σ : nS) (h : fX6_copies_b2  n k_0 k_1 a2 σ = some ((), σ1)), nJ p l e rmX6_copies s m args below meth c 0 0 (MQ below (nQv D B σ1 s.heap.size) args s 0 0 (nA B s.heap.size)) D B 3 2 [(0, .ref (na B k_0)), (1, .ref (na B k_1)), (2, .int a2)] [] σ := by
    intro  n
    induction n with
    | zero => intro k_0 hk_0 k_1 hk_1 a2 σ h; cases h
    | succ n ih =>
        intro k_0 hk_0 k_1 hk_1 a2 σ h
        rw [fX6_copies_b2] at h
        refine nx_iload_n C0 2 dX6_copies_2 rfl ?_
        refine nx_bipush (v := 74) C0 dX6_copies_3 (by decide) ?_
        refine nx_icmp_ge (tgt := 20) C0 dX6_copies_5 (by decide) (fun q => ?_) (fun q => ?_)
        · have h := nift q h
          exact nr_v2 C0 hr dX6_copies_20 h
        · have h := niff q h
          refine nx_aload_n C0 1 dX6_copies_8 rfl ?_
          refine nx_iload_n C0 2 dX6_copies_9 rfl ?_
          refine nx_aload_n C0 0 dX6_copies_10 rfl ?_
          refine nx_iload_n C0 2 dX6_copies_11 rfl ?_
          obtain ⟨g1, h⟩ := nguard h
          refine nx_iald C0 (nR_c hk_0) g1 dX6_copies_12 ?_
          obtain ⟨g2, h⟩ := nguard h
          obtain ⟨t3, et3, h⟩ := nlet h
          refine nx_iast C0 (nR_c hk_1) g2 dX6_copies_13 et3 ?_
          obtain ⟨v4, ev4, h⟩ := nlet h
          refine nx_iinc (v := v4) (lv' := [(2, .int v4), (0, .ref (na B k_0)), (1, .ref (na B k_1))]) C0 2 dX6_copies_14 rfl ev4 (by decide) rfl ?_
          refine nx_goto (tgt := 2) C0 dX6_copies_17 (by decide) ?_
          refine nx_lv (lv' := [(0, .ref (na B k_0)), (1, .ref (na B k_1)), (2, .int v4)]) [1, 2, 0] rfl ?_
          exact ih k_0 hk_0 k_1 hk_1 v4 t3 h
  refine nx_lv (lv' := [(0, .ref (na B k0)), (1, .ref (na B k1))]) [0, 1] rfl ?_
  rw [fX6_copies] at h
  refine nx_iconst (v := 0) C0 dX6_copies_0 (by decide) ?_
  refine nx_istore_n (i := 2) (y := (0 : Int32)) (lv' := [(2, .int (0 : Int32)), (0, .ref (na B k0)), (1, .ref (na B k1))]) C0 dX6_copies_1 rfl (by decide) rfl rfl ?_
  refine nx_lv (lv' := [(0, .ref (na B k0)), (1, .ref (na B k1)), (2, .int (0 : Int32))]) [1, 2, 0] rfl ?_
  exact hfX6_copies_b2 4096 k0 hk0 k1 hk1 (0 : Int32) σ h
def rmX6_ofG : Room := { frames := 0, cells := 0, slots := 0, locals := 0 }
theorem ndX6_ofG : yX6_ofG.cls ≠ "java/lang/invoke/MethodHandle" ∧ yX6_ofG.cls ≠ "java/lang/invoke/VarHandle" ∧ (parseMethodDescriptor yX6_ofG.desc).map (fun d => d.parameters.length) = some 1 := by decide +kernel
set_option maxRecDepth 100000 in
set_option maxHeartbeats 4000000 in
theorem mX6_ofG (l : Launch) (D : va_G) (B : nBT) (hB : nInj B) (x0 : Int32) (σ : nS) {r : Int32}  (h : fX6_ofG x0 σ = some r) : nMi l D B yX6_ofG wsX6_ofG rmX6_ofG [.int x0] σ r σ := by
  refine nmet (cc := cX6_ofG) (maxL := 1) (ret := (some .int)) (own := RX6) (av := [.int x0]) (nQi D B r σ) hB (by decide) rfl rfl (Nat.le_of_ble_eq_true rfl) (fun p e s m args below meth c C0 hr => ?_)
  refine nx_lv (lv' := [(0, .int x0)]) [0] rfl ?_
  rw [fX6_ofG] at h
  refine nx_iconst (v := 4) C0 dX6_ofG_0 (by decide) ?_
  refine nx_iconst (v := 3) C0 dX6_ofG_1 (by decide) ?_
  refine nx_iload_n C0 0 dX6_ofG_2 rfl ?_
  refine nx_imul C0 dX6_ofG_3 ?_
  refine nx_iadd C0 dX6_ofG_4 ?_
  exact nr_i C0 hr dX6_ofG_5 h
def rmX6_ofL : Room := { frames := 0, cells := 0, slots := 0, locals := 0 }
theorem ndX6_ofL : yX6_ofL.cls ≠ "java/lang/invoke/MethodHandle" ∧ yX6_ofL.cls ≠ "java/lang/invoke/VarHandle" ∧ (parseMethodDescriptor yX6_ofL.desc).map (fun d => d.parameters.length) = some 1 := by decide +kernel
set_option maxRecDepth 100000 in
set_option maxHeartbeats 4000000 in
theorem mX6_ofL (l : Launch) (D : va_G) (B : nBT) (hB : nInj B) (x0 : Int32) (σ : nS) {r : Int32}  (h : fX6_ofL x0 σ = some r) : nMi l D B yX6_ofL wsX6_ofL rmX6_ofL [.int x0] σ r σ := by
  refine nmet (cc := cX6_ofL) (maxL := 1) (ret := (some .int)) (own := RX6) (av := [.int x0]) (nQi D B r σ) hB (by decide) rfl rfl (Nat.le_of_ble_eq_true rfl) (fun p e s m args below meth c C0 hr => ?_)
  refine nx_lv (lv' := [(0, .int x0)]) [0] rfl ?_
  rw [fX6_ofL] at h
  refine nx_bipush (v := 34) C0 dX6_ofL_0 (by decide) ?_
  refine nx_iconst (v := 4) C0 dX6_ofL_2 (by decide) ?_
  refine nx_iload_n C0 0 dX6_ofL_3 rfl ?_
  refine nx_imul C0 dX6_ofL_4 ?_
  refine nx_iadd C0 dX6_ofL_5 ?_
  exact nr_i C0 hr dX6_ofL_6 h
def rmX6_isGood : Room := { frames := 1, cells := 0, slots := 0, locals := 22 }
theorem ndX6_isGood : yX6_isGood.cls = RX6 ∧ yX6_isGood.cls ≠ "java/lang/invoke/MethodHandle" ∧ yX6_isGood.cls ≠ "java/lang/invoke/VarHandle" ∧ (parseMethodDescriptor yX6_isGood.desc).map (fun d => d.parameters.length) = some 1 := by decide +kernel
set_option maxRecDepth 100000 in
set_option maxHeartbeats 4000000 in
theorem mX6_isGood (l : Launch) (D : va_G) (B : nBT) (hB : nInj B) (x1 : Int32) (σ : nS) {r : Int32}  (h : fX6_isGood x1 σ = some r) : nMi l D B yX6_isGood wsX6_isGood rmX6_isGood [.ref (na B 63), .int x1] σ r σ := by
  refine nmet (cc := cX6_isGood) (maxL := 2) (ret := (some .boolean)) (own := RX6) (av := [.ref (na B 63), .int x1]) (nQi D B r σ) hB (by decide) rfl rfl (Nat.le_of_ble_eq_true rfl) (fun p e s m args below meth c C0 hr => ?_)
  have hh0 : ∀ w ∈ wsX60, w ∈ wsX6_isGood := by decide +kernel
  have hh1 := C0.2.2.2.2.1 (Cond.fieldLink RX6 9 "NotInTheCoinModel" "s" "[I") (by decide +kernel)
  refine nx_lv (lv' := [(0, .ref (na B 63)), (1, .int x1)]) [0, 1] rfl ?_
  rw [fX6_isGood] at h
  refine nx_iload_n C0 1 dX6_isGood_0 rfl ?_
  refine nx_iconst (v := 0) C0 dX6_isGood_1 (by decide) ?_
  refine nx_aload_n C0 0 dX6_isGood_2 rfl ?_
  refine nx_gX6_s C0 hh0 hh1 dX6_isGood_3 ?_
  refine nx_iconst (v := 0) C0 dX6_isGood_6 (by decide) ?_
  obtain ⟨g1, h⟩ := nguard h
  refine nx_iald C0 nI_64 g1 dX6_isGood_7 ?_
  refine nx_iconst (v := 1) C0 dX6_isGood_8 (by decide) ?_
  refine nx_isub C0 dX6_isGood_9 ?_
  obtain ⟨r3, c2, h⟩ := nbind h
  refine nx_cSi (n := 3) (As := [.int x1, .int (0 : Int32), .int ((σ 64 ((0 : Int32)).toNatClampNeg) - (1 : Int32))]) (st := []) C0 (mX6_isIn l D B hB x1 (0 : Int32) ((σ 64 ((0 : Int32)).toNatClampNeg) - (1 : Int32)) σ c2) gX6_isGood_X6_isIn rfl rfl rfl ndX6_isIn ⟨Nat.le_of_ble_eq_true rfl, Nat.le_of_ble_eq_true rfl⟩ rfl (Nat.le_of_ble_eq_true rfl) rfl dX6_isGood_10 ?_
  obtain ⟨g4, h⟩ := nguard h
  exact nr_z C0 hr g4 dX6_isGood_13 h
def rmX6_isPerson : Room := { frames := 1, cells := 0, slots := 0, locals := 22 }
theorem ndX6_isPerson : yX6_isPerson.cls = RX6 ∧ yX6_isPerson.cls ≠ "java/lang/invoke/MethodHandle" ∧ yX6_isPerson.cls ≠ "java/lang/invoke/VarHandle" ∧ (parseMethodDescriptor yX6_isPerson.desc).map (fun d => d.parameters.length) = some 1 := by decide +kernel
set_option maxRecDepth 100000 in
set_option maxHeartbeats 4000000 in
theorem mX6_isPerson (l : Launch) (D : va_G) (B : nBT) (hB : nInj B) (x1 : Int32) (σ : nS) {r : Int32}  (h : fX6_isPerson x1 σ = some r) : nMi l D B yX6_isPerson wsX6_isPerson rmX6_isPerson [.ref (na B 63), .int x1] σ r σ := by
  refine nmet (cc := cX6_isPerson) (maxL := 2) (ret := (some .boolean)) (own := RX6) (av := [.ref (na B 63), .int x1]) (nQi D B r σ) hB (by decide) rfl rfl (Nat.le_of_ble_eq_true rfl) (fun p e s m args below meth c C0 hr => ?_)
  have hh0 : ∀ w ∈ wsX60, w ∈ wsX6_isPerson := by decide +kernel
  have hh1 := C0.2.2.2.2.1 (Cond.fieldLink RX6 9 "NotInTheCoinModel" "s" "[I") (by decide +kernel)
  refine nx_lv (lv' := [(0, .ref (na B 63)), (1, .int x1)]) [0, 1] rfl ?_
  rw [fX6_isPerson] at h
  refine nx_iload_n C0 1 dX6_isPerson_0 rfl ?_
  refine nx_iconst (v := 0) C0 dX6_isPerson_1 (by decide) ?_
  refine nx_aload_n C0 0 dX6_isPerson_2 rfl ?_
  refine nx_gX6_s C0 hh0 hh1 dX6_isPerson_3 ?_
  refine nx_iconst (v := 1) C0 dX6_isPerson_6 (by decide) ?_
  obtain ⟨g1, h⟩ := nguard h
  refine nx_iald C0 nI_64 g1 dX6_isPerson_7 ?_
  refine nx_iconst (v := 1) C0 dX6_isPerson_8 (by decide) ?_
  refine nx_isub C0 dX6_isPerson_9 ?_
  obtain ⟨r3, c2, h⟩ := nbind h
  refine nx_cSi (n := 3) (As := [.int x1, .int (0 : Int32), .int ((σ 64 ((1 : Int32)).toNatClampNeg) - (1 : Int32))]) (st := []) C0 (mX6_isIn l D B hB x1 (0 : Int32) ((σ 64 ((1 : Int32)).toNatClampNeg) - (1 : Int32)) σ c2) gX6_isPerson_X6_isIn rfl rfl rfl ndX6_isIn ⟨Nat.le_of_ble_eq_true rfl, Nat.le_of_ble_eq_true rfl⟩ rfl (Nat.le_of_ble_eq_true rfl) rfl dX6_isPerson_10 ?_
  obtain ⟨g4, h⟩ := nguard h
  exact nr_z C0 hr g4 dX6_isPerson_13 h
def rmX6_isLoan : Room := { frames := 1, cells := 0, slots := 0, locals := 22 }
theorem ndX6_isLoan : yX6_isLoan.cls = RX6 ∧ yX6_isLoan.cls ≠ "java/lang/invoke/MethodHandle" ∧ yX6_isLoan.cls ≠ "java/lang/invoke/VarHandle" ∧ (parseMethodDescriptor yX6_isLoan.desc).map (fun d => d.parameters.length) = some 1 := by decide +kernel
set_option maxRecDepth 100000 in
set_option maxHeartbeats 4000000 in
theorem mX6_isLoan (l : Launch) (D : va_G) (B : nBT) (hB : nInj B) (x1 : Int32) (σ : nS) {r : Int32}  (h : fX6_isLoan x1 σ = some r) : nMi l D B yX6_isLoan wsX6_isLoan rmX6_isLoan [.ref (na B 63), .int x1] σ r σ := by
  refine nmet (cc := cX6_isLoan) (maxL := 2) (ret := (some .boolean)) (own := RX6) (av := [.ref (na B 63), .int x1]) (nQi D B r σ) hB (by decide) rfl rfl (Nat.le_of_ble_eq_true rfl) (fun p e s m args below meth c C0 hr => ?_)
  have hh0 : ∀ w ∈ wsX60, w ∈ wsX6_isLoan := by decide +kernel
  have hh1 := C0.2.2.2.2.1 (Cond.fieldLink RX6 9 "NotInTheCoinModel" "s" "[I") (by decide +kernel)
  refine nx_lv (lv' := [(0, .ref (na B 63)), (1, .int x1)]) [0, 1] rfl ?_
  rw [fX6_isLoan] at h
  refine nx_iload_n C0 1 dX6_isLoan_0 rfl ?_
  refine nx_iconst (v := 0) C0 dX6_isLoan_1 (by decide) ?_
  refine nx_aload_n C0 0 dX6_isLoan_2 rfl ?_
  refine nx_gX6_s C0 hh0 hh1 dX6_isLoan_3 ?_
  refine nx_iconst (v := 2) C0 dX6_isLoan_6 (by decide) ?_
  obtain ⟨g1, h⟩ := nguard h
  refine nx_iald C0 nI_64 g1 dX6_isLoan_7 ?_
  refine nx_iconst (v := 1) C0 dX6_isLoan_8 (by decide) ?_
  refine nx_isub C0 dX6_isLoan_9 ?_
  obtain ⟨r3, c2, h⟩ := nbind h
  refine nx_cSi (n := 3) (As := [.int x1, .int (0 : Int32), .int ((σ 64 ((2 : Int32)).toNatClampNeg) - (1 : Int32))]) (st := []) C0 (mX6_isIn l D B hB x1 (0 : Int32) ((σ 64 ((2 : Int32)).toNatClampNeg) - (1 : Int32)) σ c2) gX6_isLoan_X6_isIn rfl rfl rfl ndX6_isIn ⟨Nat.le_of_ble_eq_true rfl, Nat.le_of_ble_eq_true rfl⟩ rfl (Nat.le_of_ble_eq_true rfl) rfl dX6_isLoan_10 ?_
  obtain ⟨g4, h⟩ := nguard h
  exact nr_z C0 hr g4 dX6_isLoan_13 h
def rmX6_has : Room := { frames := 0, cells := 0, slots := 0, locals := 0 }
theorem ndX6_has : yX6_has.cls ≠ "java/lang/invoke/MethodHandle" ∧ yX6_has.cls ≠ "java/lang/invoke/VarHandle" ∧ (parseMethodDescriptor yX6_has.desc).map (fun d => d.parameters.length) = some 2 := by decide +kernel
set_option maxRecDepth 100000 in
set_option maxHeartbeats 4000000 in
theorem mX6_has (l : Launch) (D : va_G) (B : nBT) (hB : nInj B) (x0 : Int32) (x1 : Int32) (σ : nS) {r : Int32}  (h : fX6_has x0 x1 σ = some r) : nMi l D B yX6_has wsX6_has rmX6_has [.int x0, .int x1] σ r σ := by
  refine nmet (cc := cX6_has) (maxL := 2) (ret := (some .boolean)) (own := RX6) (av := [.int x0, .int x1]) (nQi D B r σ) hB (by decide) rfl rfl (Nat.le_of_ble_eq_true rfl) (fun p e s m args below meth c C0 hr => ?_)
  refine nx_lv (lv' := [(0, .int x0), (1, .int x1)]) [0, 1] rfl ?_
  rw [fX6_has] at h
  refine nx_iload_n C0 0 dX6_has_0 rfl ?_
  refine nx_iload_n C0 1 dX6_has_1 rfl ?_
  refine nx_ishr C0 dX6_has_2 ?_
  refine nx_iconst (v := 1) C0 dX6_has_3 (by decide) ?_
  refine nx_iand C0 dX6_has_4 ?_
  refine nx_iconst (v := 1) C0 dX6_has_5 (by decide) ?_
  refine nx_icmp_ne (tgt := 13) C0 dX6_has_6 (by decide) (fun q => ?_) (fun q => ?_)
  · have h := niff q h
    refine nx_iconst (v := 0) C0 dX6_has_13 (by decide) ?_
    exact nr_z C0 hr (Or.inl rfl) dX6_has_14 h
  · have h := nift q h
    refine nx_iconst (v := 1) C0 dX6_has_9 (by decide) ?_
    refine nx_goto (tgt := 14) C0 dX6_has_10 (by decide) ?_
    exact nr_z C0 hr (Or.inr rfl) dX6_has_14 h
def rmX6_bits : Room := { frames := 0, cells := 0, slots := 0, locals := 0 }
theorem ndX6_bits : yX6_bits.cls ≠ "java/lang/invoke/MethodHandle" ∧ yX6_bits.cls ≠ "java/lang/invoke/VarHandle" ∧ (parseMethodDescriptor yX6_bits.desc).map (fun d => d.parameters.length) = some 1 := by decide +kernel
set_option maxRecDepth 100000 in
set_option maxHeartbeats 4000000 in
theorem mX6_bits (l : Launch) (D : va_G) (B : nBT) (hB : nInj B) (x0 : Int32) (σ : nS) {r : Int32}  (h : fX6_bits x0 σ = some r) : nMi l D B yX6_bits wsX6_bits rmX6_bits [.int x0] σ r σ := by
  refine nmet (cc := cX6_bits) (maxL := 3) (ret := (some .int)) (own := RX6) (av := [.int x0]) (nQi D B r σ) hB (by decide) rfl rfl (Nat.le_of_ble_eq_true rfl) (fun p e s m args below meth c C0 hr => ?_)
  have hfX6_bits_b4 : ∀  (n : Nat) (a0 : Int32) (a1 : Int32) (a2 : Int32) (h : fX6_bits_b4  n a0 a1 a2 σ = some r), nJ p l e rmX6_bits s m args below meth c 0 0 (MQ below (nQi D B r σ s.heap.size) args s 0 0 (nA B s.heap.size)) D B 3 4 [(0, .int a0), (1, .int a1), (2, .int a2)] [] σ := by
    intro  n
    induction n with
    | zero => intro a0 a1 a2 h; cases h
    | succ n ih =>
        intro a0 a1 a2 h
        rw [fX6_bits_b4] at h
        refine nx_iload_n C0 2 dX6_bits_4 rfl ?_
        refine nx_bipush (v := 10) C0 dX6_bits_5 (by decide) ?_
        refine nx_icmp_ge (tgt := 24) C0 dX6_bits_7 (by decide) (fun q => ?_) (fun q => ?_)
        · have h := nift q h
          refine nx_iload_n C0 1 dX6_bits_24 rfl ?_
          exact nr_i C0 hr dX6_bits_25 h
        · have h := niff q h
          refine nx_iload_n C0 1 dX6_bits_10 rfl ?_
          refine nx_iload_n C0 0 dX6_bits_11 rfl ?_
          refine nx_iload_n C0 2 dX6_bits_12 rfl ?_
          refine nx_ishr C0 dX6_bits_13 ?_
          refine nx_iconst (v := 1) C0 dX6_bits_14 (by decide) ?_
          refine nx_iand C0 dX6_bits_15 ?_
          refine nx_iadd C0 dX6_bits_16 ?_
          obtain ⟨v1, ev1, h⟩ := nlet h
          refine nx_istore_n (i := 1) (y := v1) (lv' := [(1, .int v1), (0, .int a0), (2, .int a2)]) C0 dX6_bits_17 rfl (by decide) ev1 rfl ?_
          obtain ⟨v2, ev2, h⟩ := nlet h
          refine nx_iinc (v := v2) (lv' := [(2, .int v2), (1, .int v1), (0, .int a0)]) C0 2 dX6_bits_18 rfl ev2 (by decide) rfl ?_
          refine nx_goto (tgt := 4) C0 dX6_bits_21 (by decide) ?_
          refine nx_lv (lv' := [(0, .int a0), (1, .int v1), (2, .int v2)]) [2, 1, 0] rfl ?_
          exact ih a0 v1 v2 h
  refine nx_lv (lv' := [(0, .int x0)]) [0] rfl ?_
  rw [fX6_bits] at h
  refine nx_iconst (v := 0) C0 dX6_bits_0 (by decide) ?_
  refine nx_istore_n (i := 1) (y := (0 : Int32)) (lv' := [(1, .int (0 : Int32)), (0, .int x0)]) C0 dX6_bits_1 rfl (by decide) rfl rfl ?_
  refine nx_iconst (v := 0) C0 dX6_bits_2 (by decide) ?_
  refine nx_istore_n (i := 2) (y := (0 : Int32)) (lv' := [(2, .int (0 : Int32)), (1, .int (0 : Int32)), (0, .int x0)]) C0 dX6_bits_3 rfl (by decide) rfl rfl ?_
  refine nx_lv (lv' := [(0, .int x0), (1, .int (0 : Int32)), (2, .int (0 : Int32))]) [2, 1, 0] rfl ?_
  exact hfX6_bits_b4 4096 x0 (0 : Int32) (0 : Int32) h
def rmX6_worthBy : Room := { frames := 1, cells := 0, slots := 0, locals := 21 }
theorem ndX6_worthBy : yX6_worthBy.cls ≠ "java/lang/invoke/MethodHandle" ∧ yX6_worthBy.cls ≠ "java/lang/invoke/VarHandle" ∧ (parseMethodDescriptor yX6_worthBy.desc).map (fun d => d.parameters.length) = some 4 := by decide +kernel
set_option maxRecDepth 100000 in
set_option maxHeartbeats 4000000 in
theorem mX6_worthBy (l : Launch) (D : va_G) (B : nBT) (hB : nInj B) (x0 : Int32) (x1 : Int32) (x2 : Int32) (x3 : Int32) (σ : nS) {r : Int32}  (h : fX6_worthBy x0 x1 x2 x3 σ = some r) : nMi l D B yX6_worthBy wsX6_worthBy rmX6_worthBy [.int x0, .int x1, .int x2, .int x3] σ r σ := by
  refine nmet (cc := cX6_worthBy) (maxL := 5) (ret := (some .int)) (own := RX6) (av := [.int x0, .int x1, .int x2, .int x3]) (nQi D B r σ) hB (by decide) rfl rfl (Nat.le_of_ble_eq_true rfl) (fun p e s m args below meth c C0 hr => ?_)
  refine nx_lv (lv' := [(0, .int x0), (1, .int x1), (2, .int x2), (3, .int x3)]) [0, 1, 2, 3] rfl ?_
  rw [fX6_worthBy] at h
  refine nx_iload_n C0 1 dX6_worthBy_0 rfl ?_
  refine nx_iconst (v := 2) C0 dX6_worthBy_1 (by decide) ?_
  refine nx_iadd C0 dX6_worthBy_2 ?_
  refine nx_iload_n C0 2 dX6_worthBy_3 rfl ?_
  refine nx_iconst (v := 2) C0 dX6_worthBy_4 (by decide) ?_
  refine nx_idiv C0 dX6_worthBy_5 (by decide) ?_
  refine nx_iadd C0 dX6_worthBy_6 ?_
  refine nx_iload_n C0 3 dX6_worthBy_7 rfl ?_
  refine nx_iconst (v := 3) C0 dX6_worthBy_8 (by decide) ?_
  refine nx_irem C0 dX6_worthBy_9 (by decide) ?_
  refine nx_isub C0 dX6_worthBy_10 ?_
  obtain ⟨v1, ev1, h⟩ := nlet h
  refine nx_istore (i := 4) (y := v1) (lv' := [(4, .int v1), (0, .int x0), (1, .int x1), (2, .int x2), (3, .int x3)]) C0 dX6_worthBy_11 (by decide) ev1 rfl ?_
  refine nx_iload_n C0 1 dX6_worthBy_13 rfl ?_
  by_cases q2 : x0 = 1
  · have h := nift q2 h
    refine nx_tabIn (tgt := 56) C0 1 dX6_worthBy_14 (by rw [q2]; rfl) (by decide) (by decide) rfl (by decide) ?_
    refine nx_bipush (v := 6) C0 dX6_worthBy_56 (by decide) ?_
    refine nx_iload_n C0 2 dX6_worthBy_58 rfl ?_
    refine nx_iadd C0 dX6_worthBy_59 ?_
    exact nr_i C0 hr dX6_worthBy_60 h
  have h := niff q2 h
  by_cases q3 : x0 = 2
  · have h := nift q3 h
    refine nx_tabIn (tgt := 61) C0 2 dX6_worthBy_14 (by rw [q3]; rfl) (by decide) (by decide) rfl (by decide) ?_
    refine nx_iload C0 0 dX6_worthBy_61 rfl ?_
    exact nr_i C0 hr dX6_worthBy_63 h
  have h := niff q3 h
  by_cases q4 : x0 = 3
  · have h := nift q4 h
    refine nx_tabIn (tgt := 64) C0 3 dX6_worthBy_14 (by rw [q4]; rfl) (by decide) (by decide) rfl (by decide) ?_
    refine nx_iload_n C0 3 dX6_worthBy_64 rfl ?_
    exact nr_i C0 hr dX6_worthBy_65 h
  have h := niff q4 h
  by_cases q7 : x0 = 4
  · have h := nift q7 h
    refine nx_tabIn (tgt := 66) C0 4 dX6_worthBy_14 (by rw [q7]; rfl) (by decide) (by decide) rfl (by decide) ?_
    refine nx_iconst (v := 0) C0 dX6_worthBy_66 (by decide) ?_
    refine nx_iconst (v := 2) C0 dX6_worthBy_67 (by decide) ?_
    refine nx_iload_n C0 3 dX6_worthBy_68 rfl ?_
    refine nx_imul C0 dX6_worthBy_69 ?_
    refine nx_iload_n C0 4 dX6_worthBy_70 rfl ?_
    refine nx_iconst (v := 2) C0 dX6_worthBy_71 (by decide) ?_
    refine nx_irem C0 dX6_worthBy_72 (by decide) ?_
    refine nx_isub C0 dX6_worthBy_73 ?_
    obtain ⟨r6, c5, h⟩ := nbind h
    refine nx_cSi (n := 2) (As := [.int (0 : Int32), .int (((2 : Int32) * x2) - (x3 - x3 / (2 : Int32) * (2 : Int32)))]) (st := []) C0 (mX6_most l D B hB (0 : Int32) (((2 : Int32) * x2) - (x3 - x3 / (2 : Int32) * (2 : Int32))) σ c5) gX6_worthBy_X6_most rfl rfl rfl ndX6_most ⟨Nat.le_of_ble_eq_true rfl, Nat.le_of_ble_eq_true rfl⟩ rfl (Nat.le_of_ble_eq_true rfl) rfl dX6_worthBy_74 ?_
    exact nr_i C0 hr dX6_worthBy_77 h
  have h := niff q7 h
  by_cases q8 : x0 = 5
  · have h := nift q8 h
    refine nx_tabIn (tgt := 78) C0 5 dX6_worthBy_14 (by rw [q8]; rfl) (by decide) (by decide) rfl (by decide) ?_
    refine nx_bipush (v := 9) C0 dX6_worthBy_78 (by decide) ?_
    refine nx_iload_n C0 3 dX6_worthBy_80 rfl ?_
    refine nx_isub C0 dX6_worthBy_81 ?_
    exact nr_i C0 hr dX6_worthBy_82 h
  have h := niff q8 h
  by_cases q9 : x0 = 6
  · have h := nift q9 h
    refine nx_tabIn (tgt := 83) C0 6 dX6_worthBy_14 (by rw [q9]; rfl) (by decide) (by decide) rfl (by decide) ?_
    refine nx_iload C0 0 dX6_worthBy_83 rfl ?_
    refine nx_iconst (v := 2) C0 dX6_worthBy_85 (by decide) ?_
    refine nx_idiv C0 dX6_worthBy_86 (by decide) ?_
    exact nr_i C0 hr dX6_worthBy_87 h
  have h := niff q9 h
  by_cases q10 : x0 = 7
  · have h := nift q10 h
    refine nx_tabIn (tgt := 88) C0 7 dX6_worthBy_14 (by rw [q10]; rfl) (by decide) (by decide) rfl (by decide) ?_
    refine nx_iload C0 0 dX6_worthBy_88 rfl ?_
    refine nx_iconst (v := 2) C0 dX6_worthBy_90 (by decide) ?_
    refine nx_idiv C0 dX6_worthBy_91 (by decide) ?_
    refine nx_iconst (v := 3) C0 dX6_worthBy_92 (by decide) ?_
    refine nx_iadd C0 dX6_worthBy_93 ?_
    refine nx_iload_n C0 2 dX6_worthBy_94 rfl ?_
    refine nx_iadd C0 dX6_worthBy_95 ?_
    exact nr_i C0 hr dX6_worthBy_96 h
  have h := niff q10 h
  have q2n := nne q2 (z := 1) rfl
  have q3n := nne q3 (z := 2) rfl
  have q4n := nne q4 (z := 3) rfl
  have q7n := nne q7 (z := 4) rfl
  have q8n := nne q8 (z := 5) rfl
  have q9n := nne q9 (z := 6) rfl
  have q10n := nne q10 (z := 7) rfl
  refine nx_tabOut (tgt := 97) C0 dX6_worthBy_14 (by omega) (by decide) ?_
  refine nx_iload_n C0 2 dX6_worthBy_97 rfl ?_
  refine nx_iconst (v := 2) C0 dX6_worthBy_98 (by decide) ?_
  refine nx_iadd C0 dX6_worthBy_99 ?_
  exact nr_i C0 hr dX6_worthBy_100 h
def rmX6_worthIn : Room := { frames := 2, cells := 0, slots := 0, locals := 45 }
theorem ndX6_worthIn : yX6_worthIn.cls ≠ "java/lang/invoke/MethodHandle" ∧ yX6_worthIn.cls ≠ "java/lang/invoke/VarHandle" ∧ (parseMethodDescriptor yX6_worthIn.desc).map (fun d => d.parameters.length) = some 3 := by decide +kernel
set_option maxRecDepth 100000 in
set_option maxHeartbeats 4000000 in
theorem mX6_worthIn (l : Launch) (D : va_G) (B : nBT) (hB : nInj B) {k0 : Nat} (hk0 : nR k0) (x1 : Int32) (x2 : Int32) (σ : nS) {r : Int32}  (h : fX6_worthIn k0 x1 x2 σ = some r) : nMi l D B yX6_worthIn wsX6_worthIn rmX6_worthIn [.ref (na B k0), .int x1, .int x2] σ r σ := by
  refine nmet (cc := cX6_worthIn) (maxL := 3) (ret := (some .int)) (own := RX6) (av := [.ref (na B k0), .int x1, .int x2]) (nQi D B r σ) hB (by decide) rfl rfl (Nat.le_of_ble_eq_true rfl) (fun p e s m args below meth c C0 hr => ?_)
  refine nx_lv (lv' := [(0, .ref (na B k0)), (1, .int x1), (2, .int x2)]) [0, 1, 2] rfl ?_
  rw [fX6_worthIn] at h
  refine nx_aload_n C0 0 dX6_worthIn_0 rfl ?_
  refine nx_iload_n C0 2 dX6_worthIn_1 rfl ?_
  obtain ⟨r2, c1, h⟩ := nbind h
  refine nx_cSi (n := 1) (As := [.int x2]) (st := [.ref (na B k0)]) C0 (mX6_ofG l D B hB x2 σ c1) gX6_worthIn_X6_ofG rfl rfl rfl ndX6_ofG ⟨Nat.le_of_ble_eq_true rfl, Nat.le_of_ble_eq_true rfl⟩ rfl (Nat.le_of_ble_eq_true rfl) rfl dX6_worthIn_2 ?_
  refine nx_iconst (v := 0) C0 dX6_worthIn_5 (by decide) ?_
  refine nx_iadd C0 dX6_worthIn_6 ?_
  obtain ⟨g3, h⟩ := nguard h
  refine nx_iald C0 (nR_c hk0) g3 dX6_worthIn_7 ?_
  refine nx_aload_n C0 0 dX6_worthIn_8 rfl ?_
  refine nx_iload_n C0 2 dX6_worthIn_9 rfl ?_
  obtain ⟨r5, c4, h⟩ := nbind h
  refine nx_cSi (n := 1) (As := [.int x2]) (st := [.ref (na B k0), .int (σ k0 ((r2 + (0 : Int32))).toNatClampNeg)]) C0 (mX6_ofG l D B hB x2 σ c4) gX6_worthIn_X6_ofG rfl rfl rfl ndX6_ofG ⟨Nat.le_of_ble_eq_true rfl, Nat.le_of_ble_eq_true rfl⟩ rfl (Nat.le_of_ble_eq_true rfl) rfl dX6_worthIn_10 ?_
  refine nx_iconst (v := 1) C0 dX6_worthIn_13 (by decide) ?_
  refine nx_iadd C0 dX6_worthIn_14 ?_
  obtain ⟨g6, h⟩ := nguard h
  refine nx_iald C0 (nR_c hk0) g6 dX6_worthIn_15 ?_
  refine nx_aload_n C0 0 dX6_worthIn_16 rfl ?_
  refine nx_bipush (v := 28) C0 dX6_worthIn_17 (by decide) ?_
  refine nx_iload_n C0 1 dX6_worthIn_19 rfl ?_
  refine nx_iadd C0 dX6_worthIn_20 ?_
  obtain ⟨g7, h⟩ := nguard h
  refine nx_iald C0 (nR_c hk0) g7 dX6_worthIn_21 ?_
  refine nx_aload_n C0 0 dX6_worthIn_22 rfl ?_
  refine nx_iconst (v := 3) C0 dX6_worthIn_23 (by decide) ?_
  obtain ⟨g8, h⟩ := nguard h
  refine nx_iald C0 (nR_c hk0) g8 dX6_worthIn_24 ?_
  obtain ⟨r10, c9, h⟩ := nbind h
  refine nx_cSi (n := 4) (As := [.int (σ k0 ((r2 + (0 : Int32))).toNatClampNeg), .int (σ k0 ((r5 + (1 : Int32))).toNatClampNeg), .int (σ k0 (((28 : Int32) + x1)).toNatClampNeg), .int (σ k0 ((3 : Int32)).toNatClampNeg)]) (st := []) C0 (mX6_worthBy l D B hB (σ k0 ((r2 + (0 : Int32))).toNatClampNeg) (σ k0 ((r5 + (1 : Int32))).toNatClampNeg) (σ k0 (((28 : Int32) + x1)).toNatClampNeg) (σ k0 ((3 : Int32)).toNatClampNeg) σ c9) gX6_worthIn_X6_worthBy rfl rfl rfl ndX6_worthBy ⟨Nat.le_of_ble_eq_true rfl, Nat.le_of_ble_eq_true rfl⟩ rfl (Nat.le_of_ble_eq_true rfl) rfl dX6_worthIn_25 ?_
  exact nr_i C0 hr dX6_worthIn_28 h
def rmX6_areSame : Room := { frames := 1, cells := 0, slots := 0, locals := 20 }
theorem ndX6_areSame : yX6_areSame.cls ≠ "java/lang/invoke/MethodHandle" ∧ yX6_areSame.cls ≠ "java/lang/invoke/VarHandle" ∧ (parseMethodDescriptor yX6_areSame.desc).map (fun d => d.parameters.length) = some 3 := by decide +kernel
set_option maxRecDepth 100000 in
set_option maxHeartbeats 4000000 in
theorem mX6_areSame (l : Launch) (D : va_G) (B : nBT) (hB : nInj B) {k0 : Nat} (hk0 : nR k0) (x1 : Int32) (x2 : Int32) (σ : nS) {r : Int32}  (h : fX6_areSame k0 x1 x2 σ = some r) : nMi l D B yX6_areSame wsX6_areSame rmX6_areSame [.ref (na B k0), .int x1, .int x2] σ r σ := by
  refine nmet (cc := cX6_areSame) (maxL := 3) (ret := (some .boolean)) (own := RX6) (av := [.ref (na B k0), .int x1, .int x2]) (nQi D B r σ) hB (by decide) rfl rfl (Nat.le_of_ble_eq_true rfl) (fun p e s m args below meth c C0 hr => ?_)
  refine nx_lv (lv' := [(0, .ref (na B k0)), (1, .int x1), (2, .int x2)]) [0, 1, 2] rfl ?_
  rw [fX6_areSame] at h
  refine nx_aload_n C0 0 dX6_areSame_0 rfl ?_
  refine nx_bipush (v := 66) C0 dX6_areSame_1 (by decide) ?_
  refine nx_aload_n C0 0 dX6_areSame_3 rfl ?_
  refine nx_iload_n C0 1 dX6_areSame_4 rfl ?_
  obtain ⟨r2, c1, h⟩ := nbind h
  refine nx_cSi (n := 1) (As := [.int x1]) (st := [.ref (na B k0), .int (66 : Int32), .ref (na B k0)]) C0 (mX6_ofG l D B hB x1 σ c1) gX6_areSame_X6_ofG rfl rfl rfl ndX6_ofG ⟨Nat.le_of_ble_eq_true rfl, Nat.le_of_ble_eq_true rfl⟩ rfl (Nat.le_of_ble_eq_true rfl) rfl dX6_areSame_5 ?_
  refine nx_iconst (v := 0) C0 dX6_areSame_8 (by decide) ?_
  refine nx_iadd C0 dX6_areSame_9 ?_
  obtain ⟨g3, h⟩ := nguard h
  refine nx_iald C0 (nR_c hk0) g3 dX6_areSame_10 ?_
  refine nx_iadd C0 dX6_areSame_11 ?_
  obtain ⟨g4, h⟩ := nguard h
  refine nx_iald C0 (nR_c hk0) g4 dX6_areSame_12 ?_
  refine nx_aload_n C0 0 dX6_areSame_13 rfl ?_
  refine nx_bipush (v := 66) C0 dX6_areSame_14 (by decide) ?_
  refine nx_aload_n C0 0 dX6_areSame_16 rfl ?_
  refine nx_iload_n C0 2 dX6_areSame_17 rfl ?_
  obtain ⟨r6, c5, h⟩ := nbind h
  refine nx_cSi (n := 1) (As := [.int x2]) (st := [.ref (na B k0), .int (66 : Int32), .ref (na B k0), .int (σ k0 (((66 : Int32) + (σ k0 ((r2 + (0 : Int32))).toNatClampNeg))).toNatClampNeg)]) C0 (mX6_ofG l D B hB x2 σ c5) gX6_areSame_X6_ofG rfl rfl rfl ndX6_ofG ⟨Nat.le_of_ble_eq_true rfl, Nat.le_of_ble_eq_true rfl⟩ rfl (Nat.le_of_ble_eq_true rfl) rfl dX6_areSame_18 ?_
  refine nx_iconst (v := 0) C0 dX6_areSame_21 (by decide) ?_
  refine nx_iadd C0 dX6_areSame_22 ?_
  obtain ⟨g7, h⟩ := nguard h
  refine nx_iald C0 (nR_c hk0) g7 dX6_areSame_23 ?_
  refine nx_iadd C0 dX6_areSame_24 ?_
  obtain ⟨g8, h⟩ := nguard h
  refine nx_iald C0 (nR_c hk0) g8 dX6_areSame_25 ?_
  refine nx_icmp_ne (tgt := 33) C0 dX6_areSame_26 (by decide) (fun q => ?_) (fun q => ?_)
  · have h := niff q h
    refine nx_iconst (v := 0) C0 dX6_areSame_33 (by decide) ?_
    exact nr_z C0 hr (Or.inl rfl) dX6_areSame_34 h
  · have h := nift q h
    refine nx_iconst (v := 1) C0 dX6_areSame_29 (by decide) ?_
    refine nx_goto (tgt := 34) C0 dX6_areSame_30 (by decide) ?_
    exact nr_z C0 hr (Or.inr rfl) dX6_areSame_34 h
def rmX6_wouldIn : Room := { frames := 3, cells := 0, slots := 0, locals := 67 }
theorem ndX6_wouldIn : yX6_wouldIn.cls ≠ "java/lang/invoke/MethodHandle" ∧ yX6_wouldIn.cls ≠ "java/lang/invoke/VarHandle" ∧ (parseMethodDescriptor yX6_wouldIn.desc).map (fun d => d.parameters.length) = some 4 := by decide +kernel
set_option maxRecDepth 100000 in
set_option maxHeartbeats 4000000 in
theorem mX6_wouldIn (l : Launch) (D : va_G) (B : nBT) (hB : nInj B) {k0 : Nat} (hk0 : nR k0) (x1 : Int32) (x2 : Int32) (x3 : Int32) (σ : nS) {r : Int32}  (h : fX6_wouldIn k0 x1 x2 x3 σ = some r) : nMi l D B yX6_wouldIn wsX6_wouldIn rmX6_wouldIn [.ref (na B k0), .int x1, .int x2, .int x3] σ r σ := by
  refine nmet (cc := cX6_wouldIn) (maxL := 4) (ret := (some .boolean)) (own := RX6) (av := [.ref (na B k0), .int x1, .int x2, .int x3]) (nQi D B r σ) hB (by decide) rfl rfl (Nat.le_of_ble_eq_true rfl) (fun p e s m args below meth c C0 hr => ?_)
  refine nx_lv (lv' := [(0, .ref (na B k0)), (1, .int x1), (2, .int x2), (3, .int x3)]) [0, 1, 2, 3] rfl ?_
  rw [fX6_wouldIn] at h
  refine nx_aload_n C0 0 dX6_wouldIn_0 rfl ?_
  refine nx_iload_n C0 2 dX6_wouldIn_1 rfl ?_
  refine nx_iload_n C0 3 dX6_wouldIn_2 rfl ?_
  obtain ⟨r2, c1, h⟩ := nbind h
  refine nx_cSi (n := 3) (As := [.ref (na B k0), .int x2, .int x3]) (st := []) C0 (mX6_areSame l D B hB hk0 x2 x3 σ c1) gX6_wouldIn_X6_areSame rfl rfl rfl ndX6_areSame ⟨Nat.le_of_ble_eq_true rfl, Nat.le_of_ble_eq_true rfl⟩ rfl (Nat.le_of_ble_eq_true rfl) rfl dX6_wouldIn_3 ?_
  refine nx_if_ne (tgt := 28) C0 dX6_wouldIn_6 (by decide) (fun q => ?_) (fun q => ?_)
  · have h := niff q h
    refine nx_iconst (v := 0) C0 dX6_wouldIn_28 (by decide) ?_
    exact nr_z C0 hr (Or.inl rfl) dX6_wouldIn_29 h
  · have h := nift q h
    refine nx_aload_n C0 0 dX6_wouldIn_9 rfl ?_
    refine nx_iload_n C0 1 dX6_wouldIn_10 rfl ?_
    refine nx_iload_n C0 3 dX6_wouldIn_11 rfl ?_
    obtain ⟨r4, c3, h⟩ := nbind h
    refine nx_cSi (n := 3) (As := [.ref (na B k0), .int x1, .int x3]) (st := []) C0 (mX6_worthIn l D B hB hk0 x1 x3 σ c3) gX6_wouldIn_X6_worthIn rfl rfl rfl ndX6_worthIn ⟨Nat.le_of_ble_eq_true rfl, Nat.le_of_ble_eq_true rfl⟩ rfl (Nat.le_of_ble_eq_true rfl) rfl dX6_wouldIn_12 ?_
    refine nx_aload_n C0 0 dX6_wouldIn_15 rfl ?_
    refine nx_iload_n C0 1 dX6_wouldIn_16 rfl ?_
    refine nx_iload_n C0 2 dX6_wouldIn_17 rfl ?_
    obtain ⟨r6, c5, h⟩ := nbind h
    refine nx_cSi (n := 3) (As := [.ref (na B k0), .int x1, .int x2]) (st := [.int r4]) C0 (mX6_worthIn l D B hB hk0 x1 x2 σ c5) gX6_wouldIn_X6_worthIn rfl rfl rfl ndX6_worthIn ⟨Nat.le_of_ble_eq_true rfl, Nat.le_of_ble_eq_true rfl⟩ rfl (Nat.le_of_ble_eq_true rfl) rfl dX6_wouldIn_18 ?_
    refine nx_icmp_lt (tgt := 28) C0 dX6_wouldIn_21 (by decide) (fun q => ?_) (fun q => ?_)
    · have h := nift q h
      refine nx_iconst (v := 0) C0 dX6_wouldIn_28 (by decide) ?_
      exact nr_z C0 hr (Or.inl rfl) dX6_wouldIn_29 h
    · have h := niff q h
      refine nx_iconst (v := 1) C0 dX6_wouldIn_24 (by decide) ?_
      refine nx_goto (tgt := 29) C0 dX6_wouldIn_25 (by decide) ?_
      exact nr_z C0 hr (Or.inr rfl) dX6_wouldIn_29 h
def rmX6_canPayIn : Room := { frames := 4, cells := 0, slots := 0, locals := 90 }
theorem ndX6_canPayIn : yX6_canPayIn.cls ≠ "java/lang/invoke/MethodHandle" ∧ yX6_canPayIn.cls ≠ "java/lang/invoke/VarHandle" ∧ (parseMethodDescriptor yX6_canPayIn.desc).map (fun d => d.parameters.length) = some 3 := by decide +kernel
set_option maxRecDepth 100000 in
set_option maxHeartbeats 4000000 in
theorem mX6_canPayIn (l : Launch) (D : va_G) (B : nBT) (hB : nInj B) {k0 : Nat} (hk0 : nR k0) (x1 : Int32) (x2 : Int32) (σ : nS) {r : Int32}  (h : fX6_canPayIn k0 x1 x2 σ = some r) : nMi l D B yX6_canPayIn wsX6_canPayIn rmX6_canPayIn [.ref (na B k0), .int x1, .int x2] σ r σ := by
  refine nmet (cc := cX6_canPayIn) (maxL := 3) (ret := (some .boolean)) (own := RX6) (av := [.ref (na B k0), .int x1, .int x2]) (nQi D B r σ) hB (by decide) rfl rfl (Nat.le_of_ble_eq_true rfl) (fun p e s m args below meth c C0 hr => ?_)
  refine nx_lv (lv' := [(0, .ref (na B k0)), (1, .int x1), (2, .int x2)]) [0, 1, 2] rfl ?_
  rw [fX6_canPayIn] at h
  refine nx_aload_n C0 0 dX6_canPayIn_0 rfl ?_
  refine nx_iload_n C0 1 dX6_canPayIn_1 rfl ?_
  obtain ⟨r2, c1, h⟩ := nbind h
  refine nx_cSi (n := 1) (As := [.int x1]) (st := [.ref (na B k0)]) C0 (mX6_ofL l D B hB x1 σ c1) gX6_canPayIn_X6_ofL rfl rfl rfl ndX6_ofL ⟨Nat.le_of_ble_eq_true rfl, Nat.le_of_ble_eq_true rfl⟩ rfl (Nat.le_of_ble_eq_true rfl) rfl dX6_canPayIn_2 ?_
  refine nx_iconst (v := 3) C0 dX6_canPayIn_5 (by decide) ?_
  refine nx_iadd C0 dX6_canPayIn_6 ?_
  obtain ⟨g3, h⟩ := nguard h
  refine nx_iald C0 (nR_c hk0) g3 dX6_canPayIn_7 ?_
  refine nx_iconst (v := 1) C0 dX6_canPayIn_8 (by decide) ?_
  refine nx_icmp_ne (tgt := 59) C0 dX6_canPayIn_9 (by decide) (fun q => ?_) (fun q => ?_)
  · have h := niff q h
    refine nx_iconst (v := 0) C0 dX6_canPayIn_59 (by decide) ?_
    exact nr_z C0 hr (Or.inl rfl) dX6_canPayIn_60 h
  · have h := nift q h
    refine nx_aload_n C0 0 dX6_canPayIn_12 rfl ?_
    refine nx_iload_n C0 2 dX6_canPayIn_13 rfl ?_
    obtain ⟨r5, c4, h⟩ := nbind h
    refine nx_cSi (n := 1) (As := [.int x2]) (st := [.ref (na B k0)]) C0 (mX6_ofG l D B hB x2 σ c4) gX6_canPayIn_X6_ofG rfl rfl rfl ndX6_ofG ⟨Nat.le_of_ble_eq_true rfl, Nat.le_of_ble_eq_true rfl⟩ rfl (Nat.le_of_ble_eq_true rfl) rfl dX6_canPayIn_14 ?_
    refine nx_iconst (v := 2) C0 dX6_canPayIn_17 (by decide) ?_
    refine nx_iadd C0 dX6_canPayIn_18 ?_
    obtain ⟨g6, h⟩ := nguard h
    refine nx_iald C0 (nR_c hk0) g6 dX6_canPayIn_19 ?_
    refine nx_aload_n C0 0 dX6_canPayIn_20 rfl ?_
    refine nx_iload_n C0 1 dX6_canPayIn_21 rfl ?_
    obtain ⟨r8, c7, h⟩ := nbind h
    refine nx_cSi (n := 1) (As := [.int x1]) (st := [.ref (na B k0), .int (σ k0 ((r5 + (2 : Int32))).toNatClampNeg)]) C0 (mX6_ofL l D B hB x1 σ c7) gX6_canPayIn_X6_ofL rfl rfl rfl ndX6_ofL ⟨Nat.le_of_ble_eq_true rfl, Nat.le_of_ble_eq_true rfl⟩ rfl (Nat.le_of_ble_eq_true rfl) rfl dX6_canPayIn_22 ?_
    refine nx_iconst (v := 1) C0 dX6_canPayIn_25 (by decide) ?_
    refine nx_iadd C0 dX6_canPayIn_26 ?_
    obtain ⟨g9, h⟩ := nguard h
    refine nx_iald C0 (nR_c hk0) g9 dX6_canPayIn_27 ?_
    refine nx_icmp_ne (tgt := 59) C0 dX6_canPayIn_28 (by decide) (fun q => ?_) (fun q => ?_)
    · have h := niff q h
      refine nx_iconst (v := 0) C0 dX6_canPayIn_59 (by decide) ?_
      exact nr_z C0 hr (Or.inl rfl) dX6_canPayIn_60 h
    · have h := nift q h
      refine nx_aload_n C0 0 dX6_canPayIn_31 rfl ?_
      refine nx_aload_n C0 0 dX6_canPayIn_32 rfl ?_
      refine nx_iload_n C0 1 dX6_canPayIn_33 rfl ?_
      obtain ⟨r11, c10, h⟩ := nbind h
      refine nx_cSi (n := 1) (As := [.int x1]) (st := [.ref (na B k0), .ref (na B k0)]) C0 (mX6_ofL l D B hB x1 σ c10) gX6_canPayIn_X6_ofL rfl rfl rfl ndX6_ofL ⟨Nat.le_of_ble_eq_true rfl, Nat.le_of_ble_eq_true rfl⟩ rfl (Nat.le_of_ble_eq_true rfl) rfl dX6_canPayIn_34 ?_
      refine nx_iconst (v := 0) C0 dX6_canPayIn_37 (by decide) ?_
      refine nx_iadd C0 dX6_canPayIn_38 ?_
      obtain ⟨g12, h⟩ := nguard h
      refine nx_iald C0 (nR_c hk0) g12 dX6_canPayIn_39 ?_
      refine nx_aload_n C0 0 dX6_canPayIn_40 rfl ?_
      refine nx_iload_n C0 1 dX6_canPayIn_41 rfl ?_
      obtain ⟨r14, c13, h⟩ := nbind h
      refine nx_cSi (n := 1) (As := [.int x1]) (st := [.ref (na B k0), .int (σ k0 ((r11 + (0 : Int32))).toNatClampNeg), .ref (na B k0)]) C0 (mX6_ofL l D B hB x1 σ c13) gX6_canPayIn_X6_ofL rfl rfl rfl ndX6_ofL ⟨Nat.le_of_ble_eq_true rfl, Nat.le_of_ble_eq_true rfl⟩ rfl (Nat.le_of_ble_eq_true rfl) rfl dX6_canPayIn_42 ?_
      refine nx_iconst (v := 2) C0 dX6_canPayIn_45 (by decide) ?_
      refine nx_iadd C0 dX6_canPayIn_46 ?_
      obtain ⟨g15, h⟩ := nguard h
      refine nx_iald C0 (nR_c hk0) g15 dX6_canPayIn_47 ?_
      refine nx_iload_n C0 2 dX6_canPayIn_48 rfl ?_
      obtain ⟨r17, c16, h⟩ := nbind h
      refine nx_cSi (n := 4) (As := [.ref (na B k0), .int (σ k0 ((r11 + (0 : Int32))).toNatClampNeg), .int (σ k0 ((r14 + (2 : Int32))).toNatClampNeg), .int x2]) (st := []) C0 (mX6_wouldIn l D B hB hk0 (σ k0 ((r11 + (0 : Int32))).toNatClampNeg) (σ k0 ((r14 + (2 : Int32))).toNatClampNeg) x2 σ c16) gX6_canPayIn_X6_wouldIn rfl rfl rfl ndX6_wouldIn ⟨Nat.le_of_ble_eq_true rfl, Nat.le_of_ble_eq_true rfl⟩ rfl (Nat.le_of_ble_eq_true rfl) rfl dX6_canPayIn_49 ?_
      refine nx_if_eq (tgt := 59) C0 dX6_canPayIn_52 (by decide) (fun q => ?_) (fun q => ?_)
      · have h := nift q h
        refine nx_iconst (v := 0) C0 dX6_canPayIn_59 (by decide) ?_
        exact nr_z C0 hr (Or.inl rfl) dX6_canPayIn_60 h
      · have h := niff q h
        refine nx_iconst (v := 1) C0 dX6_canPayIn_55 (by decide) ?_
        refine nx_goto (tgt := 60) C0 dX6_canPayIn_56 (by decide) ?_
        exact nr_z C0 hr (Or.inr rfl) dX6_canPayIn_60 h
def rmX6_paysIn : Room := { frames := 1, cells := 0, slots := 0, locals := 20 }
theorem ndX6_paysIn : yX6_paysIn.cls ≠ "java/lang/invoke/MethodHandle" ∧ yX6_paysIn.cls ≠ "java/lang/invoke/VarHandle" ∧ (parseMethodDescriptor yX6_paysIn.desc).map (fun d => d.parameters.length) = some 3 := by decide +kernel
set_option maxRecDepth 100000 in
set_option maxHeartbeats 4000000 in
theorem mX6_paysIn (l : Launch) (D : va_G) (B : nBT) (hB : nInj B) {k0 : Nat} (hk0 : nR k0) (x1 : Int32) (x2 : Int32) (σ : nS)  {σ1 : nS} (h : fX6_paysIn k0 x1 x2 σ = some ((), σ1)) : nMv l D B yX6_paysIn wsX6_paysIn rmX6_paysIn [.ref (na B k0), .int x1, .int x2] σ σ1 := by
  refine nmet (cc := cX6_paysIn) (maxL := 3) (ret := none) (own := RX6) (av := [.ref (na B k0), .int x1, .int x2]) (nQv D B σ1) hB (by decide) rfl rfl (Nat.le_of_ble_eq_true rfl) (fun p e s m args below meth c C0 hr => ?_)
  refine nx_lv (lv' := [(0, .ref (na B k0)), (1, .int x1), (2, .int x2)]) [0, 1, 2] rfl ?_
  rw [fX6_paysIn] at h
  refine nx_aload_n C0 0 dX6_paysIn_0 rfl ?_
  refine nx_iload_n C0 2 dX6_paysIn_1 rfl ?_
  obtain ⟨r2, c1, h⟩ := nbind h
  refine nx_cSi (n := 1) (As := [.int x2]) (st := [.ref (na B k0)]) C0 (mX6_ofG l D B hB x2 σ c1) gX6_paysIn_X6_ofG rfl rfl rfl ndX6_ofG ⟨Nat.le_of_ble_eq_true rfl, Nat.le_of_ble_eq_true rfl⟩ rfl (Nat.le_of_ble_eq_true rfl) rfl dX6_paysIn_2 ?_
  refine nx_iconst (v := 2) C0 dX6_paysIn_5 (by decide) ?_
  refine nx_iadd C0 dX6_paysIn_6 ?_
  refine nx_aload_n C0 0 dX6_paysIn_7 rfl ?_
  refine nx_iload_n C0 1 dX6_paysIn_8 rfl ?_
  obtain ⟨r4, c3, h⟩ := nbind h
  refine nx_cSi (n := 1) (As := [.int x1]) (st := [.ref (na B k0), .int (r2 + (2 : Int32)), .ref (na B k0)]) C0 (mX6_ofL l D B hB x1 σ c3) gX6_paysIn_X6_ofL rfl rfl rfl ndX6_ofL ⟨Nat.le_of_ble_eq_true rfl, Nat.le_of_ble_eq_true rfl⟩ rfl (Nat.le_of_ble_eq_true rfl) rfl dX6_paysIn_9 ?_
  refine nx_iconst (v := 0) C0 dX6_paysIn_12 (by decide) ?_
  refine nx_iadd C0 dX6_paysIn_13 ?_
  obtain ⟨g5, h⟩ := nguard h
  refine nx_iald C0 (nR_c hk0) g5 dX6_paysIn_14 ?_
  obtain ⟨g6, h⟩ := nguard h
  obtain ⟨t7, et7, h⟩ := nlet h
  refine nx_iast C0 (nR_c hk0) g6 dX6_paysIn_15 et7 ?_
  refine nx_aload_n C0 0 dX6_paysIn_16 rfl ?_
  refine nx_iload_n C0 1 dX6_paysIn_17 rfl ?_
  obtain ⟨r9, c8, h⟩ := nbind h
  refine nx_cSi (n := 1) (As := [.int x1]) (st := [.ref (na B k0)]) C0 (mX6_ofL l D B hB x1 t7 c8) gX6_paysIn_X6_ofL rfl rfl rfl ndX6_ofL ⟨Nat.le_of_ble_eq_true rfl, Nat.le_of_ble_eq_true rfl⟩ rfl (Nat.le_of_ble_eq_true rfl) rfl dX6_paysIn_18 ?_
  refine nx_iconst (v := 3) C0 dX6_paysIn_21 (by decide) ?_
  refine nx_iadd C0 dX6_paysIn_22 ?_
  refine nx_iconst (v := 0) C0 dX6_paysIn_23 (by decide) ?_
  obtain ⟨g10, h⟩ := nguard h
  obtain ⟨t11, et11, h⟩ := nlet h
  refine nx_iast C0 (nR_c hk0) g10 dX6_paysIn_24 et11 ?_
  exact nr_v2 C0 hr dX6_paysIn_25 h
def rmX6_leastPayment : Room := { frames := 5, cells := 0, slots := 0, locals := 112 }
theorem ndX6_leastPayment : yX6_leastPayment.cls ≠ "java/lang/invoke/MethodHandle" ∧ yX6_leastPayment.cls ≠ "java/lang/invoke/VarHandle" ∧ (parseMethodDescriptor yX6_leastPayment.desc).map (fun d => d.parameters.length) = some 2 := by decide +kernel
set_option maxRecDepth 100000 in
set_option maxHeartbeats 4000000 in
theorem mX6_leastPayment (l : Launch) (D : va_G) (B : nBT) (hB : nInj B) {k0 : Nat} (hk0 : nR k0) (x1 : Int32) (σ : nS) {r : Int32}  (h : fX6_leastPayment k0 x1 σ = some r) : nMi l D B yX6_leastPayment wsX6_leastPayment rmX6_leastPayment [.ref (na B k0), .int x1] σ r σ := by
  refine nmet (cc := cX6_leastPayment) (maxL := 5) (ret := (some .int)) (own := RX6) (av := [.ref (na B k0), .int x1]) (nQi D B r σ) hB (by decide) rfl rfl (Nat.le_of_ble_eq_true rfl) (fun p e s m args below meth c C0 hr => ?_)
  have hfX6_leastPayment_b15 : ∀  (n : Nat) (k_0 : Nat) (hk_0 : nR k_0) (a1 : Int32) (a2 : Int32) (a3 : Int32) (a4 : Int32) (h : fX6_leastPayment_b15  n k_0 a1 a2 a3 a4 σ = some r), nJ p l e rmX6_leastPayment s m args below meth c 0 0 (MQ below (nQi D B r σ s.heap.size) args s 0 0 (nA B s.heap.size)) D B 5 15 [(0, .ref (na B k_0)), (1, .int a1), (2, .int a2), (3, .int a3), (4, .int a4)] [] σ := by
    intro  n
    induction n with
    | zero => intro k_0 hk_0 a1 a2 a3 a4 h; cases h
    | succ n ih =>
        intro k_0 hk_0 a1 a2 a3 a4 h
        rw [fX6_leastPayment_b15] at h
        refine nx_iload C0 4 dX6_leastPayment_15 rfl ?_
        refine nx_aload_n C0 0 dX6_leastPayment_17 rfl ?_
        refine nx_iconst (v := 0) C0 dX6_leastPayment_18 (by decide) ?_
        obtain ⟨g1, h⟩ := nguard h
        refine nx_iald C0 (nR_c hk_0) g1 dX6_leastPayment_19 ?_
        refine nx_icmp_ge (tgt := 62) C0 dX6_leastPayment_20 (by decide) (fun q => ?_) (fun q => ?_)
        · have h := nift q h
          refine nx_iload_n C0 2 dX6_leastPayment_62 rfl ?_
          exact nr_i C0 hr dX6_leastPayment_63 h
        · have h := niff q h
          refine nx_aload_n C0 0 dX6_leastPayment_23 rfl ?_
          refine nx_iload_n C0 1 dX6_leastPayment_24 rfl ?_
          refine nx_iload C0 4 dX6_leastPayment_25 rfl ?_
          obtain ⟨r3, c2, h⟩ := nbind h
          refine nx_cSi (n := 3) (As := [.ref (na B k_0), .int a1, .int a4]) (st := []) C0 (mX6_canPayIn l D B hB hk_0 a1 a4 σ c2) gX6_leastPayment_X6_canPayIn rfl rfl rfl ndX6_canPayIn ⟨Nat.le_of_ble_eq_true rfl, Nat.le_of_ble_eq_true rfl⟩ rfl (Nat.le_of_ble_eq_true rfl) rfl dX6_leastPayment_27 ?_
          refine nx_if_eq (tgt := 56) C0 dX6_leastPayment_30 (by decide) (fun q => ?_) (fun q => ?_)
          · have h := nift q h
            obtain ⟨v4, ev4, h⟩ := nlet h
            refine nx_iinc (v := v4) (lv' := [(4, .int v4), (0, .ref (na B k_0)), (1, .int a1), (2, .int a2), (3, .int a3)]) C0 4 dX6_leastPayment_56 rfl ev4 (by decide) rfl ?_
            refine nx_goto (tgt := 15) C0 dX6_leastPayment_59 (by decide) ?_
            refine nx_lv (lv' := [(0, .ref (na B k_0)), (1, .int a1), (2, .int a2), (3, .int a3), (4, .int v4)]) [1, 2, 3, 4, 0] rfl ?_
            exact ih k_0 hk_0 a1 a2 a3 v4 h
          · have h := niff q h
            refine nx_iload_n C0 2 dX6_leastPayment_33 rfl ?_
            refine nx_if_lt (tgt := 53) C0 dX6_leastPayment_34 (by decide) (fun q => ?_) (fun q => ?_)
            · have h := nift q h
              refine nx_iload C0 4 dX6_leastPayment_53 rfl ?_
              refine nx_istore_n (i := 2) (y := a4) (lv' := [(2, .int a4), (0, .ref (na B k_0)), (1, .int a1), (3, .int a3), (4, .int a4)]) C0 dX6_leastPayment_55 rfl (by decide) rfl rfl ?_
              obtain ⟨v5, ev5, h⟩ := nlet h
              refine nx_iinc (v := v5) (lv' := [(4, .int v5), (2, .int a4), (0, .ref (na B k_0)), (1, .int a1), (3, .int a3)]) C0 4 dX6_leastPayment_56 rfl ev5 (by decide) rfl ?_
              refine nx_goto (tgt := 15) C0 dX6_leastPayment_59 (by decide) ?_
              refine nx_lv (lv' := [(0, .ref (na B k_0)), (1, .int a1), (2, .int a4), (3, .int a3), (4, .int v5)]) [2, 3, 1, 4, 0] rfl ?_
              exact ih k_0 hk_0 a1 a4 a3 v5 h
            · have h := niff q h
              refine nx_aload_n C0 0 dX6_leastPayment_37 rfl ?_
              refine nx_iload_n C0 3 dX6_leastPayment_38 rfl ?_
              refine nx_iload C0 4 dX6_leastPayment_39 rfl ?_
              obtain ⟨r7, c6, h⟩ := nbind h
              refine nx_cSi (n := 3) (As := [.ref (na B k_0), .int a3, .int a4]) (st := []) C0 (mX6_worthIn l D B hB hk_0 a3 a4 σ c6) gX6_leastPayment_X6_worthIn rfl rfl rfl ndX6_worthIn ⟨Nat.le_of_ble_eq_true rfl, Nat.le_of_ble_eq_true rfl⟩ rfl (Nat.le_of_ble_eq_true rfl) rfl dX6_leastPayment_41 ?_
              refine nx_aload_n C0 0 dX6_leastPayment_44 rfl ?_
              refine nx_iload_n C0 3 dX6_leastPayment_45 rfl ?_
              refine nx_iload_n C0 2 dX6_leastPayment_46 rfl ?_
              obtain ⟨r9, c8, h⟩ := nbind h
              refine nx_cSi (n := 3) (As := [.ref (na B k_0), .int a3, .int a2]) (st := [.int r7]) C0 (mX6_worthIn l D B hB hk_0 a3 a2 σ c8) gX6_leastPayment_X6_worthIn rfl rfl rfl ndX6_worthIn ⟨Nat.le_of_ble_eq_true rfl, Nat.le_of_ble_eq_true rfl⟩ rfl (Nat.le_of_ble_eq_true rfl) rfl dX6_leastPayment_47 ?_
              refine nx_icmp_ge (tgt := 56) C0 dX6_leastPayment_50 (by decide) (fun q => ?_) (fun q => ?_)
              · have h := nift q h
                obtain ⟨v10, ev10, h⟩ := nlet h
                refine nx_iinc (v := v10) (lv' := [(4, .int v10), (0, .ref (na B k_0)), (1, .int a1), (2, .int a2), (3, .int a3)]) C0 4 dX6_leastPayment_56 rfl ev10 (by decide) rfl ?_
                refine nx_goto (tgt := 15) C0 dX6_leastPayment_59 (by decide) ?_
                refine nx_lv (lv' := [(0, .ref (na B k_0)), (1, .int a1), (2, .int a2), (3, .int a3), (4, .int v10)]) [1, 2, 3, 4, 0] rfl ?_
                exact ih k_0 hk_0 a1 a2 a3 v10 h
              · have h := niff q h
                refine nx_iload C0 4 dX6_leastPayment_53 rfl ?_
                refine nx_istore_n (i := 2) (y := a4) (lv' := [(2, .int a4), (0, .ref (na B k_0)), (1, .int a1), (3, .int a3), (4, .int a4)]) C0 dX6_leastPayment_55 rfl (by decide) rfl rfl ?_
                obtain ⟨v11, ev11, h⟩ := nlet h
                refine nx_iinc (v := v11) (lv' := [(4, .int v11), (2, .int a4), (0, .ref (na B k_0)), (1, .int a1), (3, .int a3)]) C0 4 dX6_leastPayment_56 rfl ev11 (by decide) rfl ?_
                refine nx_goto (tgt := 15) C0 dX6_leastPayment_59 (by decide) ?_
                refine nx_lv (lv' := [(0, .ref (na B k_0)), (1, .int a1), (2, .int a4), (3, .int a3), (4, .int v11)]) [2, 3, 1, 4, 0] rfl ?_
                exact ih k_0 hk_0 a1 a4 a3 v11 h
  refine nx_lv (lv' := [(0, .ref (na B k0)), (1, .int x1)]) [0, 1] rfl ?_
  rw [fX6_leastPayment] at h
  refine nx_bipush (v := -4) C0 dX6_leastPayment_0 (by decide) ?_
  refine nx_istore_n (i := 2) (y := (-4 : Int32)) (lv' := [(2, .int (-4 : Int32)), (0, .ref (na B k0)), (1, .int x1)]) C0 dX6_leastPayment_2 rfl (by decide) rfl rfl ?_
  refine nx_aload_n C0 1 dX6_leastPayment_3 rfl ?_
  refine nx_iload_n C0 2 dX6_leastPayment_4 rfl ?_
  obtain ⟨r13, c12, h⟩ := nbind h
  refine nx_cSi (n := 1) (As := [.int x1]) (st := [.ref (na B k0)]) C0 (mX6_ofL l D B hB x1 σ c12) gX6_leastPayment_X6_ofL rfl rfl rfl ndX6_ofL ⟨Nat.le_of_ble_eq_true rfl, Nat.le_of_ble_eq_true rfl⟩ rfl (Nat.le_of_ble_eq_true rfl) rfl dX6_leastPayment_5 ?_
  refine nx_iconst (v := 1) C0 dX6_leastPayment_8 (by decide) ?_
  refine nx_iadd C0 dX6_leastPayment_9 ?_
  obtain ⟨g14, h⟩ := nguard h
  refine nx_iald C0 (nR_c hk0) g14 dX6_leastPayment_10 ?_
  obtain ⟨v15, ev15, h⟩ := nlet h
  refine nx_istore_n (i := 3) (y := v15) (lv' := [(3, .int v15), (2, .int (-4 : Int32)), (0, .ref (na B k0)), (1, .int x1)]) C0 dX6_leastPayment_11 rfl (by decide) ev15 rfl ?_
  refine nx_iconst (v := 0) C0 dX6_leastPayment_12 (by decide) ?_
  refine nx_istore (i := 4) (y := (0 : Int32)) (lv' := [(4, .int (0 : Int32)), (3, .int v15), (2, .int (-4 : Int32)), (0, .ref (na B k0)), (1, .int x1)]) C0 dX6_leastPayment_13 (by decide) rfl rfl ?_
  refine nx_lv (lv' := [(0, .ref (na B k0)), (1, .int x1), (2, .int (-4 : Int32)), (3, .int v15), (4, .int (0 : Int32))]) [3, 4, 2, 1, 0] rfl ?_
  exact hfX6_leastPayment_b15 4096 k0 hk0 x1 (-4 : Int32) v15 (0 : Int32) h
def rmX6_week : Room := { frames := 6, cells := 0, slots := 0, locals := 136 }
theorem ndX6_week : yX6_week.cls ≠ "java/lang/invoke/MethodHandle" ∧ yX6_week.cls ≠ "java/lang/invoke/VarHandle" ∧ (parseMethodDescriptor yX6_week.desc).map (fun d => d.parameters.length) = some 1 := by decide +kernel
set_option maxRecDepth 100000 in
set_option maxHeartbeats 4000000 in
theorem mX6_week (l : Launch) (D : va_G) (B : nBT) (hB : nInj B) {k0 : Nat} (hk0 : nR k0) (σ : nS)  {σ1 : nS} (h : fX6_week k0 σ = some ((), σ1)) : nMv l D B yX6_week wsX6_week rmX6_week [.ref (na B k0)] σ σ1 := by
  refine nmet (cc := cX6_week) (maxL := 3) (ret := none) (own := RX6) (av := [.ref (na B k0)]) (nQv D B σ1) hB (by decide) rfl rfl (Nat.le_of_ble_eq_true rfl) (fun p e s m args below meth c C0 hr => ?_)
  have hfX6_week_b9 : ∀  (n : Nat) (k_0 : Nat) (hk_0 : nR k_0) (a1 : Int32) (σ : nS) (h : fX6_week_b9  n k_0 a1 σ = some ((), σ1)), nJ p l e rmX6_week s m args below meth c 0 0 (MQ below (nQv D B σ1 s.heap.size) args s 0 0 (nA B s.heap.size)) D B 3 9 [(0, .ref (na B k_0)), (1, .int a1)] [] σ := by
    intro  n
    induction n with
    | zero => intro k_0 hk_0 a1 σ h; cases h
    | succ n ih =>
        intro k_0 hk_0 a1 σ h
        rw [fX6_week_b9] at h
        refine nx_iload_n C0 1 dX6_week_9 rfl ?_
        refine nx_aload_n C0 0 dX6_week_10 rfl ?_
        refine nx_iconst (v := 2) C0 dX6_week_11 (by decide) ?_
        obtain ⟨g1, h⟩ := nguard h
        refine nx_iald C0 (nR_c hk_0) g1 dX6_week_12 ?_
        refine nx_icmp_ge (tgt := 38) C0 dX6_week_13 (by decide) (fun q => ?_) (fun q => ?_)
        · have h := nift q h
          exact nr_v2 C0 hr dX6_week_38 h
        · have h := niff q h
          refine nx_aload_n C0 0 dX6_week_16 rfl ?_
          refine nx_iload_n C0 1 dX6_week_17 rfl ?_
          obtain ⟨r3, c2, h⟩ := nbind h
          refine nx_cSi (n := 2) (As := [.ref (na B k_0), .int a1]) (st := []) C0 (mX6_leastPayment l D B hB hk_0 a1 σ c2) gX6_week_X6_leastPayment rfl rfl rfl ndX6_leastPayment ⟨Nat.le_of_ble_eq_true rfl, Nat.le_of_ble_eq_true rfl⟩ rfl (Nat.le_of_ble_eq_true rfl) rfl dX6_week_18 ?_
          refine nx_istore_n (i := 2) (y := r3) (lv' := [(2, .int r3), (0, .ref (na B k_0)), (1, .int a1)]) C0 dX6_week_21 rfl (by decide) rfl rfl ?_
          refine nx_iload_n C0 0 dX6_week_22 rfl ?_
          refine nx_if_lt (tgt := 32) C0 dX6_week_23 (by decide) (fun q => ?_) (fun q => ?_)
          · have h := nift q h
            obtain ⟨v4, ev4, h⟩ := nlet h
            refine nx_iinc (v := v4) (lv' := [(1, .int v4), (2, .int r3), (0, .ref (na B k_0))]) C0 2 dX6_week_32 rfl ev4 (by decide) rfl ?_
            refine nx_goto (tgt := 9) C0 dX6_week_35 (by decide) ?_
            refine nx_lv (lv' := [(0, .ref (na B k_0)), (1, .int v4)]) [2, 0] rfl ?_
            exact ih k_0 hk_0 v4 σ h
          · have h := niff q h
            refine nx_aload_n C0 1 dX6_week_26 rfl ?_
            refine nx_iload_n C0 2 dX6_week_27 rfl ?_
            refine nx_iload_n C0 0 dX6_week_28 rfl ?_
            obtain ⟨r6, t7, c5, h⟩ := nbind2 h
            refine nx_cSv (n := 3) (As := [.ref (na B k_0), .int a1, .int r3]) (st := []) C0 (mX6_paysIn l D B hB hk_0 a1 r3 σ c5) gX6_week_X6_paysIn rfl rfl rfl ndX6_paysIn ⟨Nat.le_of_ble_eq_true rfl, Nat.le_of_ble_eq_true rfl⟩ rfl (Nat.le_of_ble_eq_true rfl) rfl dX6_week_29 ?_
            obtain ⟨v8, ev8, h⟩ := nlet h
            refine nx_iinc (v := v8) (lv' := [(1, .int v8), (2, .int r3), (0, .ref (na B k_0))]) C0 2 dX6_week_32 rfl ev8 (by decide) rfl ?_
            refine nx_goto (tgt := 9) C0 dX6_week_35 (by decide) ?_
            refine nx_lv (lv' := [(0, .ref (na B k_0)), (1, .int v8)]) [2, 0] rfl ?_
            exact ih k_0 hk_0 v8 t7 h
  refine nx_lv (lv' := [(0, .ref (na B k0))]) [0] rfl ?_
  rw [fX6_week] at h
  refine nx_aload_n C0 0 dX6_week_0 rfl ?_
  refine nx_iconst (v := 3) C0 dX6_week_1 (by decide) ?_
  refine nx_dup2 C0 dX6_week_2 rfl rfl ?_
  obtain ⟨g9, h⟩ := nguard h
  refine nx_iald C0 (nR_c hk0) g9 dX6_week_3 ?_
  refine nx_iconst (v := 1) C0 dX6_week_4 (by decide) ?_
  refine nx_iadd C0 dX6_week_5 ?_
  obtain ⟨g10, h⟩ := nguard h
  obtain ⟨t11, et11, h⟩ := nlet h
  refine nx_iast C0 (nR_c hk0) g10 dX6_week_6 et11 ?_
  refine nx_iconst (v := 0) C0 dX6_week_7 (by decide) ?_
  refine nx_istore_n (i := 1) (y := (0 : Int32)) (lv' := [(1, .int (0 : Int32)), (0, .ref (na B k0))]) C0 dX6_week_8 rfl (by decide) rfl rfl ?_
  refine nx_lv (lv' := [(0, .ref (na B k0)), (1, .int (0 : Int32))]) [1, 0] rfl ?_
  exact hfX6_week_b9 4096 k0 hk0 (0 : Int32) t11 h
def rmX6_weeksOn : Room := { frames := 7, cells := 0, slots := 0, locals := 158 }
theorem ndX6_weeksOn : yX6_weeksOn.cls ≠ "java/lang/invoke/MethodHandle" ∧ yX6_weeksOn.cls ≠ "java/lang/invoke/VarHandle" ∧ (parseMethodDescriptor yX6_weeksOn.desc).map (fun d => d.parameters.length) = some 2 := by decide +kernel
set_option maxRecDepth 100000 in
set_option maxHeartbeats 4000000 in
theorem mX6_weeksOn (l : Launch) (D : va_G) (B : nBT) (hB : nInj B) {k0 : Nat} (hk0 : nR k0) (x1 : Int32) (σ : nS)  {σ1 : nS} (h : fX6_weeksOn k0 x1 σ = some ((), σ1)) : nMv l D B yX6_weeksOn wsX6_weeksOn rmX6_weeksOn [.ref (na B k0), .int x1] σ σ1 := by
  refine nmet (cc := cX6_weeksOn) (maxL := 3) (ret := none) (own := RX6) (av := [.ref (na B k0), .int x1]) (nQv D B σ1) hB (by decide) rfl rfl (Nat.le_of_ble_eq_true rfl) (fun p e s m args below meth c C0 hr => ?_)
  have hfX6_weeksOn_b2 : ∀  (n : Nat) (k_0 : Nat) (hk_0 : nR k_0) (a1 : Int32) (a2 : Int32) (σ : nS) (h : fX6_weeksOn_b2  n k_0 a1 a2 σ = some ((), σ1)), nJ p l e rmX6_weeksOn s m args below meth c 0 0 (MQ below (nQv D B σ1 s.heap.size) args s 0 0 (nA B s.heap.size)) D B 3 2 [(0, .ref (na B k_0)), (1, .int a1), (2, .int a2)] [] σ := by
    intro  n
    induction n with
    | zero => intro k_0 hk_0 a1 a2 σ h; cases h
    | succ n ih =>
        intro k_0 hk_0 a1 a2 σ h
        rw [fX6_weeksOn_b2] at h
        refine nx_iload_n C0 2 dX6_weeksOn_2 rfl ?_
        refine nx_iload_n C0 1 dX6_weeksOn_3 rfl ?_
        refine nx_icmp_ge (tgt := 17) C0 dX6_weeksOn_4 (by decide) (fun q => ?_) (fun q => ?_)
        · have h := nift q h
          exact nr_v2 C0 hr dX6_weeksOn_17 h
        · have h := niff q h
          refine nx_aload_n C0 0 dX6_weeksOn_7 rfl ?_
          obtain ⟨r2, t3, c1, h⟩ := nbind2 h
          refine nx_cSv (n := 1) (As := [.ref (na B k_0)]) (st := []) C0 (mX6_week l D B hB hk_0 σ c1) gX6_weeksOn_X6_week rfl rfl rfl ndX6_week ⟨Nat.le_of_ble_eq_true rfl, Nat.le_of_ble_eq_true rfl⟩ rfl (Nat.le_of_ble_eq_true rfl) rfl dX6_weeksOn_8 ?_
          obtain ⟨v4, ev4, h⟩ := nlet h
          refine nx_iinc (v := v4) (lv' := [(2, .int v4), (0, .ref (na B k_0)), (1, .int a1)]) C0 2 dX6_weeksOn_11 rfl ev4 (by decide) rfl ?_
          refine nx_goto (tgt := 2) C0 dX6_weeksOn_14 (by decide) ?_
          refine nx_lv (lv' := [(0, .ref (na B k_0)), (1, .int a1), (2, .int v4)]) [1, 2, 0] rfl ?_
          exact ih k_0 hk_0 a1 v4 t3 h
  refine nx_lv (lv' := [(0, .ref (na B k0)), (1, .int x1)]) [0, 1] rfl ?_
  rw [fX6_weeksOn] at h
  refine nx_iconst (v := 0) C0 dX6_weeksOn_0 (by decide) ?_
  refine nx_istore_n (i := 2) (y := (0 : Int32)) (lv' := [(2, .int (0 : Int32)), (0, .ref (na B k0)), (1, .int x1)]) C0 dX6_weeksOn_1 rfl (by decide) rfl rfl ?_
  refine nx_lv (lv' := [(0, .ref (na B k0)), (1, .int x1), (2, .int (0 : Int32))]) [1, 2, 0] rfl ?_
  exact hfX6_weeksOn_b2 4096 k0 hk0 x1 (0 : Int32) σ h
def rmX6_openIn : Room := { frames := 1, cells := 0, slots := 0, locals := 20 }
theorem ndX6_openIn : yX6_openIn.cls ≠ "java/lang/invoke/MethodHandle" ∧ yX6_openIn.cls ≠ "java/lang/invoke/VarHandle" ∧ (parseMethodDescriptor yX6_openIn.desc).map (fun d => d.parameters.length) = some 1 := by decide +kernel
set_option maxRecDepth 100000 in
set_option maxHeartbeats 4000000 in
theorem mX6_openIn (l : Launch) (D : va_G) (B : nBT) (hB : nInj B) {k0 : Nat} (hk0 : nR k0) (σ : nS) {r : Int32}  (h : fX6_openIn k0 σ = some r) : nMi l D B yX6_openIn wsX6_openIn rmX6_openIn [.ref (na B k0)] σ r σ := by
  refine nmet (cc := cX6_openIn) (maxL := 3) (ret := (some .int)) (own := RX6) (av := [.ref (na B k0)]) (nQi D B r σ) hB (by decide) rfl rfl (Nat.le_of_ble_eq_true rfl) (fun p e s m args below meth c C0 hr => ?_)
  have hfX6_openIn_b4 : ∀  (n : Nat) (k_0 : Nat) (hk_0 : nR k_0) (a1 : Int32) (a2 : Int32) (h : fX6_openIn_b4  n k_0 a1 a2 σ = some r), nJ p l e rmX6_openIn s m args below meth c 0 0 (MQ below (nQi D B r σ s.heap.size) args s 0 0 (nA B s.heap.size)) D B 3 4 [(0, .ref (na B k_0)), (1, .int a1), (2, .int a2)] [] σ := by
    intro  n
    induction n with
    | zero => intro k_0 hk_0 a1 a2 h; cases h
    | succ n ih =>
        intro k_0 hk_0 a1 a2 h
        rw [fX6_openIn_b4] at h
        refine nx_iload_n C0 2 dX6_openIn_4 rfl ?_
        refine nx_aload_n C0 0 dX6_openIn_5 rfl ?_
        refine nx_iconst (v := 2) C0 dX6_openIn_6 (by decide) ?_
        obtain ⟨g1, h⟩ := nguard h
        refine nx_iald C0 (nR_c hk_0) g1 dX6_openIn_7 ?_
        refine nx_icmp_ge (tgt := 30) C0 dX6_openIn_8 (by decide) (fun q => ?_) (fun q => ?_)
        · have h := nift q h
          refine nx_iload_n C0 1 dX6_openIn_30 rfl ?_
          exact nr_i C0 hr dX6_openIn_31 h
        · have h := niff q h
          refine nx_iload_n C0 1 dX6_openIn_11 rfl ?_
          refine nx_aload_n C0 0 dX6_openIn_12 rfl ?_
          refine nx_iload_n C0 2 dX6_openIn_13 rfl ?_
          obtain ⟨r3, c2, h⟩ := nbind h
          refine nx_cSi (n := 1) (As := [.int a2]) (st := [.ref (na B k_0), .int a1]) C0 (mX6_ofL l D B hB a2 σ c2) gX6_openIn_X6_ofL rfl rfl rfl ndX6_ofL ⟨Nat.le_of_ble_eq_true rfl, Nat.le_of_ble_eq_true rfl⟩ rfl (Nat.le_of_ble_eq_true rfl) rfl dX6_openIn_14 ?_
          refine nx_iconst (v := 3) C0 dX6_openIn_17 (by decide) ?_
          refine nx_iadd C0 dX6_openIn_18 ?_
          obtain ⟨g4, h⟩ := nguard h
          refine nx_iald C0 (nR_c hk_0) g4 dX6_openIn_19 ?_
          refine nx_iload_n C0 2 dX6_openIn_20 rfl ?_
          refine nx_ishl C0 dX6_openIn_21 ?_
          refine nx_ior C0 dX6_openIn_22 ?_
          obtain ⟨v5, ev5, h⟩ := nlet h
          refine nx_istore_n (i := 1) (y := v5) (lv' := [(1, .int v5), (0, .ref (na B k_0)), (2, .int a2)]) C0 dX6_openIn_23 rfl (by decide) ev5 rfl ?_
          obtain ⟨v6, ev6, h⟩ := nlet h
          refine nx_iinc (v := v6) (lv' := [(2, .int v6), (1, .int v5), (0, .ref (na B k_0))]) C0 2 dX6_openIn_24 rfl ev6 (by decide) rfl ?_
          refine nx_goto (tgt := 4) C0 dX6_openIn_27 (by decide) ?_
          refine nx_lv (lv' := [(0, .ref (na B k_0)), (1, .int v5), (2, .int v6)]) [2, 1, 0] rfl ?_
          exact ih k_0 hk_0 v5 v6 h
  refine nx_lv (lv' := [(0, .ref (na B k0))]) [0] rfl ?_
  rw [fX6_openIn] at h
  refine nx_iconst (v := 0) C0 dX6_openIn_0 (by decide) ?_
  refine nx_istore_n (i := 1) (y := (0 : Int32)) (lv' := [(1, .int (0 : Int32)), (0, .ref (na B k0))]) C0 dX6_openIn_1 rfl (by decide) rfl rfl ?_
  refine nx_iconst (v := 0) C0 dX6_openIn_2 (by decide) ?_
  refine nx_istore_n (i := 2) (y := (0 : Int32)) (lv' := [(2, .int (0 : Int32)), (1, .int (0 : Int32)), (0, .ref (na B k0))]) C0 dX6_openIn_3 rfl (by decide) rfl rfl ?_
  refine nx_lv (lv' := [(0, .ref (na B k0)), (1, .int (0 : Int32)), (2, .int (0 : Int32))]) [2, 1, 0] rfl ?_
  exact hfX6_openIn_b4 4096 k0 hk0 (0 : Int32) (0 : Int32) h
def rmX6_here : Room := { frames := 0, cells := 0, slots := 0, locals := 0 }
theorem ndX6_here : yX6_here.cls = RX6 ∧ yX6_here.cls ≠ "java/lang/invoke/MethodHandle" ∧ yX6_here.cls ≠ "java/lang/invoke/VarHandle" ∧ (parseMethodDescriptor yX6_here.desc).map (fun d => d.parameters.length) = some 0 := by decide +kernel
set_option maxRecDepth 100000 in
set_option maxHeartbeats 4000000 in
theorem mX6_here (l : Launch) (D : va_G) (B : nBT) (hB : nInj B)  (σ : nS) {r : Int32}  (h : fX6_here σ = some r) : nMi l D B yX6_here wsX6_here rmX6_here [.ref (na B 63)] σ r σ := by
  refine nmet (cc := cX6_here) (maxL := 1) (ret := (some .int)) (own := RX6) (av := [.ref (na B 63)]) (nQi D B r σ) hB (by decide) rfl rfl (Nat.le_of_ble_eq_true rfl) (fun p e s m args below meth c C0 hr => ?_)
  have hh0 : ∀ w ∈ wsX60, w ∈ wsX6_here := by decide +kernel
  have hh1 := C0.2.2.2.2.1 (Cond.fieldLink RX6 98 "NotInTheCoinModel" "place" "I") (by decide +kernel)
  have hh2 := C0.2.2.2.2.1 (Cond.fieldLink RX6 102 "NotInTheCoinModel" "rowEnd" "I") (by decide +kernel)
  have hh3 := C0.2.2.2.2.1 (Cond.fieldLink RX6 49 "NotInTheCoinModel" "element" "[I") (by decide +kernel)
  have hh4 := C0.2.2.2.2.1 (Cond.fieldLink RX6 105 "NotInTheCoinModel" "rowAt" "I") (by decide +kernel)
  refine nx_lv (lv' := [(0, .ref (na B 63))]) [0] rfl ?_
  rw [fX6_here] at h
  refine nx_aload_n C0 0 dX6_here_0 rfl ?_
  refine nx_gX6_place C0 hh0 hh1 dX6_here_1 ?_
  refine nx_aload_n C0 0 dX6_here_4 rfl ?_
  refine nx_gX6_rowEnd C0 hh0 hh2 dX6_here_5 ?_
  refine nx_icmp_ge (tgt := 32) C0 dX6_here_8 (by decide) (fun q => ?_) (fun q => ?_)
  · have h := nift q h
    refine nx_iconst (v := -1) C0 dX6_here_32 (by decide) ?_
    exact nr_i C0 hr dX6_here_33 h
  · have h := niff q h
    refine nx_aload_n C0 0 dX6_here_11 rfl ?_
    refine nx_gX6_element C0 hh0 hh3 dX6_here_12 ?_
    refine nx_aload_n C0 0 dX6_here_15 rfl ?_
    refine nx_gX6_rowAt C0 hh0 hh4 dX6_here_16 ?_
    refine nx_aload_n C0 0 dX6_here_19 rfl ?_
    refine nx_gX6_place C0 hh0 hh1 dX6_here_20 ?_
    refine nx_iadd C0 dX6_here_23 ?_
    obtain ⟨g1, h⟩ := nguard h
    refine nx_iald C0 nI_77 g1 dX6_here_24 ?_
    refine nx_sipush (v := 255) C0 dX6_here_25 (by decide) ?_
    refine nx_iand C0 dX6_here_28 ?_
    refine nx_goto (tgt := 33) C0 dX6_here_29 (by decide) ?_
    exact nr_i C0 hr dX6_here_33 h
def rmX6_readsNumber : Room := { frames := 1, cells := 0, slots := 0, locals := 22 }
theorem ndX6_readsNumber : yX6_readsNumber.cls = RX6 ∧ yX6_readsNumber.cls ≠ "java/lang/invoke/MethodHandle" ∧ yX6_readsNumber.cls ≠ "java/lang/invoke/VarHandle" ∧ (parseMethodDescriptor yX6_readsNumber.desc).map (fun d => d.parameters.length) = some 2 := by decide +kernel
set_option maxRecDepth 100000 in
set_option maxHeartbeats 4000000 in
theorem mX6_readsNumber (l : Launch) (D : va_G) (B : nBT) (hB : nInj B) (x1 : Int32) (x2 : Int32) (σ : nS) {r : Int32} {σ1 : nS} (h : fX6_readsNumber x1 x2 σ = some (r, σ1)) : nMi l D B yX6_readsNumber wsX6_readsNumber rmX6_readsNumber [.ref (na B 63), .int x1, .int x2] σ r σ1 := by
  refine nmet (cc := cX6_readsNumber) (maxL := 4) (ret := (some .boolean)) (own := RX6) (av := [.ref (na B 63), .int x1, .int x2]) (nQi D B r σ1) hB (by decide) rfl rfl (Nat.le_of_ble_eq_true rfl) (fun p e s m args below meth c C0 hr => ?_)
  have hh0 : ∀ w ∈ wsX60, w ∈ wsX6_readsNumber := by decide +kernel
  have hh1 := C0.2.2.2.2.1 (Cond.fieldLink RX6 22 "NotInTheCoinModel" "numbers" "[I") (by decide +kernel)
  have hh2 := C0.2.2.2.2.1 (Cond.fieldLink RX6 98 "NotInTheCoinModel" "place" "I") (by decide +kernel)
  have hfX6_readsNumber_b9 : ∀  (n : Nat) (a1 : Int32) (a2 : Int32) (a3 : Int32) (σ : nS) (h : fX6_readsNumber_b9  n a1 a2 a3 σ = some (r, σ1)), nJ p l e rmX6_readsNumber s m args below meth c 0 0 (MQ below (nQi D B r σ1 s.heap.size) args s 0 0 (nA B s.heap.size)) D B 4 9 [(0, .ref (na B 63)), (1, .int a1), (2, .int a2), (3, .int a3)] [] σ := by
    intro  n
    induction n with
    | zero => intro a1 a2 a3 σ h; cases h
    | succ n ih =>
        intro a1 a2 a3 σ h
        rw [fX6_readsNumber_b9] at h
        refine nx_iload_n C0 3 dX6_readsNumber_9 rfl ?_
        refine nx_iload_n C0 2 dX6_readsNumber_10 rfl ?_
        refine nx_icmp_ge (tgt := 69) C0 dX6_readsNumber_11 (by decide) (fun q => ?_) (fun q => ?_)
        · have h := nift q h
          refine nx_iconst (v := 1) C0 dX6_readsNumber_69 (by decide) ?_
          exact nr_z2 C0 hr (Or.inr rfl) dX6_readsNumber_70 h
        · have h := niff q h
          refine nx_aload_n C0 0 dX6_readsNumber_14 rfl ?_
          obtain ⟨r2, c1, h⟩ := nbind h
          refine nx_cVi (ci := 6) (n := 0) (As := []) (st := []) C0 (mX6_here l D B hB σ c1) gX6_readsNumber_X6_here rfl rfl rfl ndX6_here ⟨Nat.le_of_ble_eq_true rfl, Nat.le_of_ble_eq_true rfl⟩ (by decide) rfl rfl rfl rfl (Nat.le_of_ble_eq_true rfl) rfl dX6_readsNumber_15 ?_
          refine nx_bipush (v := 48) C0 dX6_readsNumber_18 (by decide) ?_
          refine nx_bipush (v := 57) C0 dX6_readsNumber_20 (by decide) ?_
          obtain ⟨r4, c3, h⟩ := nbind h
          refine nx_cSi (n := 3) (As := [.int r2, .int (48 : Int32), .int (57 : Int32)]) (st := []) C0 (mX6_isIn l D B hB r2 (48 : Int32) (57 : Int32) σ c3) gX6_readsNumber_X6_isIn rfl rfl rfl ndX6_isIn ⟨Nat.le_of_ble_eq_true rfl, Nat.le_of_ble_eq_true rfl⟩ rfl (Nat.le_of_ble_eq_true rfl) rfl dX6_readsNumber_22 ?_
          refine nx_if_ne (tgt := 30) C0 dX6_readsNumber_25 (by decide) (fun q => ?_) (fun q => ?_)
          · have h := niff q h
            refine nx_aload_n C0 0 dX6_readsNumber_30 rfl ?_
            refine nx_gX6_numbers C0 hh0 hh1 dX6_readsNumber_31 ?_
            refine nx_iload_n C0 1 dX6_readsNumber_34 rfl ?_
            refine nx_bipush (v := 10) C0 dX6_readsNumber_35 (by decide) ?_
            refine nx_aload_n C0 0 dX6_readsNumber_37 rfl ?_
            refine nx_gX6_numbers C0 hh0 hh1 dX6_readsNumber_38 ?_
            refine nx_iload_n C0 1 dX6_readsNumber_41 rfl ?_
            obtain ⟨g5, h⟩ := nguard h
            refine nx_iald C0 nI_68 g5 dX6_readsNumber_42 ?_
            refine nx_imul C0 dX6_readsNumber_43 ?_
            refine nx_aload_n C0 0 dX6_readsNumber_44 rfl ?_
            obtain ⟨r7, c6, h⟩ := nbind h
            refine nx_cVi (ci := 6) (n := 0) (As := []) (st := [.int ((10 : Int32) * (σ 68 (a1).toNatClampNeg)), .int a1, .ref (na B 68)]) C0 (mX6_here l D B hB σ c6) gX6_readsNumber_X6_here rfl rfl rfl ndX6_here ⟨Nat.le_of_ble_eq_true rfl, Nat.le_of_ble_eq_true rfl⟩ (by decide) rfl rfl rfl rfl (Nat.le_of_ble_eq_true rfl) rfl dX6_readsNumber_45 ?_
            refine nx_iadd C0 dX6_readsNumber_48 ?_
            refine nx_bipush (v := 48) C0 dX6_readsNumber_49 (by decide) ?_
            refine nx_isub C0 dX6_readsNumber_51 ?_
            obtain ⟨g8, h⟩ := nguard h
            obtain ⟨t9, et9, h⟩ := nlet h
            refine nx_iast C0 nI_68 g8 dX6_readsNumber_52 et9 ?_
            refine nx_aload_n C0 0 dX6_readsNumber_53 rfl ?_
            refine nx_dup C0 dX6_readsNumber_54 rfl ?_
            refine nx_gX6_place C0 hh0 hh2 dX6_readsNumber_55 ?_
            refine nx_iconst (v := 1) C0 dX6_readsNumber_58 (by decide) ?_
            refine nx_iadd C0 dX6_readsNumber_59 ?_
            obtain ⟨t10, et10, h⟩ := nlet h
            refine nx_pX6_place C0 hh0 hh2 dX6_readsNumber_60 et10 ?_
            obtain ⟨v11, ev11, h⟩ := nlet h
            refine nx_iinc (v := v11) (lv' := [(3, .int v11), (0, .ref (na B 63)), (1, .int a1), (2, .int a2)]) C0 3 dX6_readsNumber_63 rfl ev11 (by decide) rfl ?_
            refine nx_goto (tgt := 9) C0 dX6_readsNumber_66 (by decide) ?_
            refine nx_lv (lv' := [(0, .ref (na B 63)), (1, .int a1), (2, .int a2), (3, .int v11)]) [1, 2, 3, 0] rfl ?_
            exact ih a1 a2 v11 t10 h
          · have h := nift q h
            refine nx_iconst (v := 0) C0 dX6_readsNumber_28 (by decide) ?_
            exact nr_z2 C0 hr (Or.inl rfl) dX6_readsNumber_29 h
  refine nx_lv (lv' := [(0, .ref (na B 63)), (1, .int x1), (2, .int x2)]) [0, 1, 2] rfl ?_
  rw [fX6_readsNumber] at h
  refine nx_aload_n C0 0 dX6_readsNumber_0 rfl ?_
  refine nx_gX6_numbers C0 hh0 hh1 dX6_readsNumber_1 ?_
  refine nx_iload_n C0 1 dX6_readsNumber_4 rfl ?_
  refine nx_iconst (v := 0) C0 dX6_readsNumber_5 (by decide) ?_
  obtain ⟨g12, h⟩ := nguard h
  obtain ⟨t13, et13, h⟩ := nlet h
  refine nx_iast C0 nI_68 g12 dX6_readsNumber_6 et13 ?_
  refine nx_iconst (v := 0) C0 dX6_readsNumber_7 (by decide) ?_
  refine nx_istore_n (i := 3) (y := (0 : Int32)) (lv' := [(3, .int (0 : Int32)), (0, .ref (na B 63)), (1, .int x1), (2, .int x2)]) C0 dX6_readsNumber_8 rfl (by decide) rfl rfl ?_
  refine nx_lv (lv' := [(0, .ref (na B 63)), (1, .int x1), (2, .int x2), (3, .int (0 : Int32))]) [1, 2, 3, 0] rfl ?_
  exact hfX6_readsNumber_b9 4096 x1 x2 (0 : Int32) t13 h
def rmX6_readsStatement : Room := { frames := 2, cells := 0, slots := 0, locals := 45 }
theorem ndX6_readsStatement : yX6_readsStatement.cls = RX6 ∧ yX6_readsStatement.cls ≠ "java/lang/invoke/MethodHandle" ∧ yX6_readsStatement.cls ≠ "java/lang/invoke/VarHandle" ∧ (parseMethodDescriptor yX6_readsStatement.desc).map (fun d => d.parameters.length) = some 0 := by decide +kernel
set_option maxRecDepth 100000 in
set_option maxHeartbeats 4000000 in
theorem mX6_readsStatement (l : Launch) (D : va_G) (B : nBT) (hB : nInj B)  (σ : nS) {r : Int32} {σ1 : nS} (h : fX6_readsStatement σ = some (r, σ1)) : nMi l D B yX6_readsStatement wsX6_readsStatement rmX6_readsStatement [.ref (na B 63)] σ r σ1 := by
  refine nmet (cc := cX6_readsStatement) (maxL := 3) (ret := (some .boolean)) (own := RX6) (av := [.ref (na B 63)]) (nQi D B r σ1) hB (by decide) rfl rfl (Nat.le_of_ble_eq_true rfl) (fun p e s m args below meth c C0 hr => ?_)
  have hh0 : ∀ w ∈ wsX60, w ∈ wsX6_readsStatement := by decide +kernel
  have hh1 := C0.2.2.2.2.1 (Cond.fieldLink RX6 98 "NotInTheCoinModel" "place" "I") (by decide +kernel)
  have hfX6_readsStatement_b163 : ∀  (a2 : Int32) (σ : nS) (h : fX6_readsStatement_b163  a2 σ = some (r, σ1)), nJ p l e rmX6_readsStatement s m args below meth c 0 0 (MQ below (nQi D B r σ1 s.heap.size) args s 0 0 (nA B s.heap.size)) D B 3 163 [(0, .ref (na B 63)), (2, .int a2)] [] σ := by
    intro  a2 σ h
    rw [fX6_readsStatement_b163] at h
    refine nx_iload_n C0 1 dX6_readsStatement_163 rfl ?_
    refine nx_if_eq (tgt := 176) C0 dX6_readsStatement_164 (by decide) (fun q => ?_) (fun q => ?_)
    · have h := nift q h
      refine nx_iconst (v := 0) C0 dX6_readsStatement_176 (by decide) ?_
      exact nr_z2 C0 hr (Or.inl rfl) dX6_readsStatement_177 h
    · have h := niff q h
      refine nx_aload_n C0 0 dX6_readsStatement_167 rfl ?_
      obtain ⟨r2, c1, h⟩ := nbind h
      refine nx_cVi (ci := 6) (n := 0) (As := []) (st := []) C0 (mX6_here l D B hB σ c1) gX6_readsStatement_X6_here rfl rfl rfl ndX6_here ⟨Nat.le_of_ble_eq_true rfl, Nat.le_of_ble_eq_true rfl⟩ (by decide) rfl rfl rfl rfl (Nat.le_of_ble_eq_true rfl) rfl dX6_readsStatement_168 ?_
      refine nx_bipush (v := 59) C0 dX6_readsStatement_171 (by decide) ?_
      refine nx_icmp_eq (tgt := 178) C0 dX6_readsStatement_173 (by decide) (fun q => ?_) (fun q => ?_)
      · have h := nift q h
        refine nx_aload_n C0 0 dX6_readsStatement_178 rfl ?_
        refine nx_dup C0 dX6_readsStatement_179 rfl ?_
        refine nx_gX6_place C0 hh0 hh1 dX6_readsStatement_180 ?_
        refine nx_iconst (v := 1) C0 dX6_readsStatement_183 (by decide) ?_
        refine nx_iadd C0 dX6_readsStatement_184 ?_
        obtain ⟨t3, et3, h⟩ := nlet h
        refine nx_pX6_place C0 hh0 hh1 dX6_readsStatement_185 et3 ?_
        refine nx_iconst (v := 1) C0 dX6_readsStatement_188 (by decide) ?_
        exact nr_z2 C0 hr (Or.inr rfl) dX6_readsStatement_189 h
      · have h := niff q h
        refine nx_iconst (v := 0) C0 dX6_readsStatement_176 (by decide) ?_
        exact nr_z2 C0 hr (Or.inl rfl) dX6_readsStatement_177 h
  have hfX6_readsStatement_b110 : ∀  (z0 : Int32) (σ : nS) (h : fX6_readsStatement_b110  z0 σ = some (r, σ1)), nJ p l e rmX6_readsStatement s m args below meth c 0 0 (MQ below (nQi D B r σ1 s.heap.size) args s 0 0 (nA B s.heap.size)) D B 3 110 [(0, .ref (na B 63))] [.int z0] σ := by
    intro  z0 σ h
    rw [fX6_readsStatement_b110] at h
    refine nx_istore_n (i := 2) (y := z0) (lv' := [(2, .int z0), (0, .ref (na B 63))]) C0 dX6_readsStatement_110 rfl (by decide) rfl rfl ?_
    refine nx_goto (tgt := 163) C0 dX6_readsStatement_111 (by decide) ?_
    refine nx_lv (lv' := [(0, .ref (na B 63)), (2, .int z0)]) [1, 0] rfl ?_
    exact hfX6_readsStatement_b163 z0 σ h
  have hfX6_readsStatement_b109 : ∀   (σ : nS) (h : fX6_readsStatement_b109   σ = some (r, σ1)), nJ p l e rmX6_readsStatement s m args below meth c 0 0 (MQ below (nQi D B r σ1 s.heap.size) args s 0 0 (nA B s.heap.size)) D B 3 109 [(0, .ref (na B 63))] [] σ := by
    intro   σ h
    rw [fX6_readsStatement_b109] at h
    refine nx_iconst (v := 0) C0 dX6_readsStatement_109 (by decide) ?_
    exact hfX6_readsStatement_b110 (0 : Int32) σ h
  have hfX6_readsStatement_b137 : ∀  (z0 : Int32) (σ : nS) (h : fX6_readsStatement_b137  z0 σ = some (r, σ1)), nJ p l e rmX6_readsStatement s m args below meth c 0 0 (MQ below (nQi D B r σ1 s.heap.size) args s 0 0 (nA B s.heap.size)) D B 3 137 [(0, .ref (na B 63))] [.int z0] σ := by
    intro  z0 σ h
    rw [fX6_readsStatement_b137] at h
    refine nx_istore_n (i := 2) (y := z0) (lv' := [(2, .int z0), (0, .ref (na B 63))]) C0 dX6_readsStatement_137 rfl (by decide) rfl rfl ?_
    refine nx_goto (tgt := 163) C0 dX6_readsStatement_138 (by decide) ?_
    refine nx_lv (lv' := [(0, .ref (na B 63)), (2, .int z0)]) [1, 0] rfl ?_
    exact hfX6_readsStatement_b163 z0 σ h
  have hfX6_readsStatement_b136 : ∀   (σ : nS) (h : fX6_readsStatement_b136   σ = some (r, σ1)), nJ p l e rmX6_readsStatement s m args below meth c 0 0 (MQ below (nQi D B r σ1 s.heap.size) args s 0 0 (nA B s.heap.size)) D B 3 136 [(0, .ref (na B 63))] [] σ := by
    intro   σ h
    rw [fX6_readsStatement_b136] at h
    refine nx_iconst (v := 0) C0 dX6_readsStatement_136 (by decide) ?_
    exact hfX6_readsStatement_b137 (0 : Int32) σ h
  refine nx_lv (lv' := [(0, .ref (na B 63))]) [0] rfl ?_
  rw [fX6_readsStatement] at h
  refine nx_aload_n C0 0 dX6_readsStatement_0 rfl ?_
  obtain ⟨r5, c4, h⟩ := nbind h
  refine nx_cVi (ci := 6) (n := 0) (As := []) (st := []) C0 (mX6_here l D B hB σ c4) gX6_readsStatement_X6_here rfl rfl rfl ndX6_here ⟨Nat.le_of_ble_eq_true rfl, Nat.le_of_ble_eq_true rfl⟩ (by decide) rfl rfl rfl rfl (Nat.le_of_ble_eq_true rfl) rfl dX6_readsStatement_1 ?_
  refine nx_istore_n (i := 1) (y := r5) (lv' := [(1, .int r5), (0, .ref (na B 63))]) C0 dX6_readsStatement_4 rfl (by decide) rfl rfl ?_
  refine nx_aload_n C0 1 dX6_readsStatement_5 rfl ?_
  refine nx_dup C0 dX6_readsStatement_6 rfl ?_
  refine nx_gX6_place C0 hh0 hh1 dX6_readsStatement_7 ?_
  refine nx_iconst (v := 1) C0 dX6_readsStatement_10 (by decide) ?_
  refine nx_iadd C0 dX6_readsStatement_11 ?_
  obtain ⟨t6, et6, h⟩ := nlet h
  refine nx_pX6_place C0 hh0 hh1 dX6_readsStatement_12 et6 ?_
  refine nx_iload_n C0 0 dX6_readsStatement_15 rfl ?_
  by_cases q16 : r5 = 103
  · have h := nift q16 h
    refine nx_look (tgt := 78) (off := 62) C0 dX6_readsStatement_16 rfl (by rw [q16]; rfl) (by decide) ?_
    refine nx_aload_n C0 1 dX6_readsStatement_78 rfl ?_
    refine nx_iconst (v := 0) C0 dX6_readsStatement_79 (by decide) ?_
    refine nx_iconst (v := 1) C0 dX6_readsStatement_80 (by decide) ?_
    obtain ⟨r8, t9, c7, h⟩ := nbind2 h
    refine nx_cVi (ci := 6) (n := 2) (As := [.int (0 : Int32), .int (1 : Int32)]) (st := []) C0 (mX6_readsNumber l D B hB (0 : Int32) (1 : Int32) t6 c7) gX6_readsStatement_X6_readsNumber rfl rfl rfl ndX6_readsNumber ⟨Nat.le_of_ble_eq_true rfl, Nat.le_of_ble_eq_true rfl⟩ (by decide) rfl rfl rfl rfl (Nat.le_of_ble_eq_true rfl) rfl dX6_readsStatement_81 ?_
    refine nx_if_eq (tgt := 109) C0 dX6_readsStatement_84 (by decide) (fun q => ?_) (fun q => ?_)
    · have h := nift q h
      refine nx_lv (lv' := [(0, .ref (na B 63))]) [1] rfl ?_
      exact hfX6_readsStatement_b109 t9 h
    · have h := niff q h
      refine nx_aload_n C0 1 dX6_readsStatement_87 rfl ?_
      refine nx_iconst (v := 1) C0 dX6_readsStatement_88 (by decide) ?_
      refine nx_iconst (v := 1) C0 dX6_readsStatement_89 (by decide) ?_
      obtain ⟨r11, t12, c10, h⟩ := nbind2 h
      refine nx_cVi (ci := 6) (n := 2) (As := [.int (1 : Int32), .int (1 : Int32)]) (st := []) C0 (mX6_readsNumber l D B hB (1 : Int32) (1 : Int32) t9 c10) gX6_readsStatement_X6_readsNumber rfl rfl rfl ndX6_readsNumber ⟨Nat.le_of_ble_eq_true rfl, Nat.le_of_ble_eq_true rfl⟩ (by decide) rfl rfl rfl rfl (Nat.le_of_ble_eq_true rfl) rfl dX6_readsStatement_90 ?_
      refine nx_if_eq (tgt := 109) C0 dX6_readsStatement_93 (by decide) (fun q => ?_) (fun q => ?_)
      · have h := nift q h
        refine nx_lv (lv' := [(0, .ref (na B 63))]) [1] rfl ?_
        exact hfX6_readsStatement_b109 t12 h
      · have h := niff q h
        refine nx_aload_n C0 1 dX6_readsStatement_96 rfl ?_
        refine nx_iconst (v := 2) C0 dX6_readsStatement_97 (by decide) ?_
        refine nx_iconst (v := 1) C0 dX6_readsStatement_98 (by decide) ?_
        obtain ⟨r14, t15, c13, h⟩ := nbind2 h
        refine nx_cVi (ci := 6) (n := 2) (As := [.int (2 : Int32), .int (1 : Int32)]) (st := []) C0 (mX6_readsNumber l D B hB (2 : Int32) (1 : Int32) t12 c13) gX6_readsStatement_X6_readsNumber rfl rfl rfl ndX6_readsNumber ⟨Nat.le_of_ble_eq_true rfl, Nat.le_of_ble_eq_true rfl⟩ (by decide) rfl rfl rfl rfl (Nat.le_of_ble_eq_true rfl) rfl dX6_readsStatement_99 ?_
        refine nx_if_eq (tgt := 109) C0 dX6_readsStatement_102 (by decide) (fun q => ?_) (fun q => ?_)
        · have h := nift q h
          refine nx_lv (lv' := [(0, .ref (na B 63))]) [1] rfl ?_
          exact hfX6_readsStatement_b109 t15 h
        · have h := niff q h
          refine nx_iconst (v := 1) C0 dX6_readsStatement_105 (by decide) ?_
          refine nx_goto (tgt := 110) C0 dX6_readsStatement_106 (by decide) ?_
          refine nx_lv (lv' := [(0, .ref (na B 63))]) [1] rfl ?_
          exact hfX6_readsStatement_b110 (1 : Int32) t15 h
  have h := niff q16 h
  by_cases q23 : r5 = 108
  · have h := nift q23 h
    refine nx_look (tgt := 114) (off := 98) C0 dX6_readsStatement_16 rfl (by rw [q23]; rfl) (by decide) ?_
    refine nx_aload_n C0 1 dX6_readsStatement_114 rfl ?_
    refine nx_iconst (v := 0) C0 dX6_readsStatement_115 (by decide) ?_
    refine nx_iconst (v := 1) C0 dX6_readsStatement_116 (by decide) ?_
    obtain ⟨r18, t19, c17, h⟩ := nbind2 h
    refine nx_cVi (ci := 6) (n := 2) (As := [.int (0 : Int32), .int (1 : Int32)]) (st := []) C0 (mX6_readsNumber l D B hB (0 : Int32) (1 : Int32) t6 c17) gX6_readsStatement_X6_readsNumber rfl rfl rfl ndX6_readsNumber ⟨Nat.le_of_ble_eq_true rfl, Nat.le_of_ble_eq_true rfl⟩ (by decide) rfl rfl rfl rfl (Nat.le_of_ble_eq_true rfl) rfl dX6_readsStatement_117 ?_
    refine nx_if_eq (tgt := 136) C0 dX6_readsStatement_120 (by decide) (fun q => ?_) (fun q => ?_)
    · have h := nift q h
      refine nx_lv (lv' := [(0, .ref (na B 63))]) [1] rfl ?_
      exact hfX6_readsStatement_b136 t19 h
    · have h := niff q h
      refine nx_aload_n C0 1 dX6_readsStatement_123 rfl ?_
      refine nx_iconst (v := 1) C0 dX6_readsStatement_124 (by decide) ?_
      refine nx_iconst (v := 1) C0 dX6_readsStatement_125 (by decide) ?_
      obtain ⟨r21, t22, c20, h⟩ := nbind2 h
      refine nx_cVi (ci := 6) (n := 2) (As := [.int (1 : Int32), .int (1 : Int32)]) (st := []) C0 (mX6_readsNumber l D B hB (1 : Int32) (1 : Int32) t19 c20) gX6_readsStatement_X6_readsNumber rfl rfl rfl ndX6_readsNumber ⟨Nat.le_of_ble_eq_true rfl, Nat.le_of_ble_eq_true rfl⟩ (by decide) rfl rfl rfl rfl (Nat.le_of_ble_eq_true rfl) rfl dX6_readsStatement_126 ?_
      refine nx_if_eq (tgt := 136) C0 dX6_readsStatement_129 (by decide) (fun q => ?_) (fun q => ?_)
      · have h := nift q h
        refine nx_lv (lv' := [(0, .ref (na B 63))]) [1] rfl ?_
        exact hfX6_readsStatement_b136 t22 h
      · have h := niff q h
        refine nx_iconst (v := 1) C0 dX6_readsStatement_132 (by decide) ?_
        refine nx_goto (tgt := 137) C0 dX6_readsStatement_133 (by decide) ?_
        refine nx_lv (lv' := [(0, .ref (na B 63))]) [1] rfl ?_
        exact hfX6_readsStatement_b137 (1 : Int32) t22 h
  have h := niff q23 h
  by_cases q27 : r5 = 112
  · have h := nift q27 h
    refine nx_look (tgt := 68) (off := 52) C0 dX6_readsStatement_16 rfl (by rw [q27]; rfl) (by decide) ?_
    refine nx_aload_n C0 1 dX6_readsStatement_68 rfl ?_
    refine nx_iconst (v := 0) C0 dX6_readsStatement_69 (by decide) ?_
    refine nx_iconst (v := 1) C0 dX6_readsStatement_70 (by decide) ?_
    obtain ⟨r25, t26, c24, h⟩ := nbind2 h
    refine nx_cVi (ci := 6) (n := 2) (As := [.int (0 : Int32), .int (1 : Int32)]) (st := []) C0 (mX6_readsNumber l D B hB (0 : Int32) (1 : Int32) t6 c24) gX6_readsStatement_X6_readsNumber rfl rfl rfl ndX6_readsNumber ⟨Nat.le_of_ble_eq_true rfl, Nat.le_of_ble_eq_true rfl⟩ (by decide) rfl rfl rfl rfl (Nat.le_of_ble_eq_true rfl) rfl dX6_readsStatement_71 ?_
    refine nx_istore_n (i := 2) (y := r25) (lv' := [(2, .int r25), (1, .int r5), (0, .ref (na B 63))]) C0 dX6_readsStatement_74 rfl (by decide) rfl rfl ?_
    refine nx_goto (tgt := 163) C0 dX6_readsStatement_75 (by decide) ?_
    refine nx_lv (lv' := [(0, .ref (na B 63)), (2, .int r25)]) [2, 0] rfl ?_
    exact hfX6_readsStatement_b163 r25 t26 h
  have h := niff q27 h
  by_cases q34 : r5 = 115
  · have h := nift q34 h
    refine nx_look (tgt := 114) (off := 98) C0 dX6_readsStatement_16 rfl (by rw [q34]; rfl) (by decide) ?_
    refine nx_aload_n C0 1 dX6_readsStatement_114 rfl ?_
    refine nx_iconst (v := 0) C0 dX6_readsStatement_115 (by decide) ?_
    refine nx_iconst (v := 1) C0 dX6_readsStatement_116 (by decide) ?_
    obtain ⟨r29, t30, c28, h⟩ := nbind2 h
    refine nx_cVi (ci := 6) (n := 2) (As := [.int (0 : Int32), .int (1 : Int32)]) (st := []) C0 (mX6_readsNumber l D B hB (0 : Int32) (1 : Int32) t6 c28) gX6_readsStatement_X6_readsNumber rfl rfl rfl ndX6_readsNumber ⟨Nat.le_of_ble_eq_true rfl, Nat.le_of_ble_eq_true rfl⟩ (by decide) rfl rfl rfl rfl (Nat.le_of_ble_eq_true rfl) rfl dX6_readsStatement_117 ?_
    refine nx_if_eq (tgt := 136) C0 dX6_readsStatement_120 (by decide) (fun q => ?_) (fun q => ?_)
    · have h := nift q h
      refine nx_lv (lv' := [(0, .ref (na B 63))]) [1] rfl ?_
      exact hfX6_readsStatement_b136 t30 h
    · have h := niff q h
      refine nx_aload_n C0 1 dX6_readsStatement_123 rfl ?_
      refine nx_iconst (v := 1) C0 dX6_readsStatement_124 (by decide) ?_
      refine nx_iconst (v := 1) C0 dX6_readsStatement_125 (by decide) ?_
      obtain ⟨r32, t33, c31, h⟩ := nbind2 h
      refine nx_cVi (ci := 6) (n := 2) (As := [.int (1 : Int32), .int (1 : Int32)]) (st := []) C0 (mX6_readsNumber l D B hB (1 : Int32) (1 : Int32) t30 c31) gX6_readsStatement_X6_readsNumber rfl rfl rfl ndX6_readsNumber ⟨Nat.le_of_ble_eq_true rfl, Nat.le_of_ble_eq_true rfl⟩ (by decide) rfl rfl rfl rfl (Nat.le_of_ble_eq_true rfl) rfl dX6_readsStatement_126 ?_
      refine nx_if_eq (tgt := 136) C0 dX6_readsStatement_129 (by decide) (fun q => ?_) (fun q => ?_)
      · have h := nift q h
        refine nx_lv (lv' := [(0, .ref (na B 63))]) [1] rfl ?_
        exact hfX6_readsStatement_b136 t33 h
      · have h := niff q h
        refine nx_iconst (v := 1) C0 dX6_readsStatement_132 (by decide) ?_
        refine nx_goto (tgt := 137) C0 dX6_readsStatement_133 (by decide) ?_
        refine nx_lv (lv' := [(0, .ref (na B 63))]) [1] rfl ?_
        exact hfX6_readsStatement_b137 (1 : Int32) t33 h
  have h := niff q34 h
  by_cases q38 : r5 = 119
  · have h := nift q38 h
    refine nx_look (tgt := 141) (off := 125) C0 dX6_readsStatement_16 rfl (by rw [q38]; rfl) (by decide) ?_
    refine nx_aload_n C0 1 dX6_readsStatement_141 rfl ?_
    refine nx_iconst (v := 0) C0 dX6_readsStatement_142 (by decide) ?_
    refine nx_iconst (v := 2) C0 dX6_readsStatement_143 (by decide) ?_
    obtain ⟨r36, t37, c35, h⟩ := nbind2 h
    refine nx_cVi (ci := 6) (n := 2) (As := [.int (0 : Int32), .int (2 : Int32)]) (st := []) C0 (mX6_readsNumber l D B hB (0 : Int32) (2 : Int32) t6 c35) gX6_readsStatement_X6_readsNumber rfl rfl rfl ndX6_readsNumber ⟨Nat.le_of_ble_eq_true rfl, Nat.le_of_ble_eq_true rfl⟩ (by decide) rfl rfl rfl rfl (Nat.le_of_ble_eq_true rfl) rfl dX6_readsStatement_144 ?_
    refine nx_istore_n (i := 2) (y := r36) (lv' := [(2, .int r36), (1, .int r5), (0, .ref (na B 63))]) C0 dX6_readsStatement_147 rfl (by decide) rfl rfl ?_
    refine nx_goto (tgt := 163) C0 dX6_readsStatement_148 (by decide) ?_
    refine nx_lv (lv' := [(0, .ref (na B 63)), (2, .int r36)]) [2, 0] rfl ?_
    exact hfX6_readsStatement_b163 r36 t37 h
  have h := niff q38 h
  refine nx_look (tgt := 151) (off := 135) C0 dX6_readsStatement_16 rfl ((lv_osw (a := 103) q16 (by decide)).trans ((lv_osw (a := 108) q23 (by decide)).trans ((lv_osw (a := 112) q27 (by decide)).trans ((lv_osw (a := 115) q34 (by decide)).trans ((lv_osw (a := 119) q38 (by decide)).trans (rfl)))))) (by decide) ?_
  refine nx_aload_n C0 1 dX6_readsStatement_151 rfl ?_
  refine nx_dup C0 dX6_readsStatement_152 rfl ?_
  refine nx_gX6_place C0 hh0 hh1 dX6_readsStatement_153 ?_
  refine nx_iconst (v := 1) C0 dX6_readsStatement_156 (by decide) ?_
  refine nx_isub C0 dX6_readsStatement_157 ?_
  obtain ⟨t39, et39, h⟩ := nlet h
  refine nx_pX6_place C0 hh0 hh1 dX6_readsStatement_158 et39 ?_
  refine nx_iconst (v := 0) C0 dX6_readsStatement_161 (by decide) ?_
  exact nr_z2 C0 hr (Or.inl rfl) dX6_readsStatement_162 h
def rmX6_addsPerson : Room := { frames := 0, cells := 0, slots := 0, locals := 0 }
theorem ndX6_addsPerson : yX6_addsPerson.cls = RX6 ∧ yX6_addsPerson.cls ≠ "java/lang/invoke/MethodHandle" ∧ yX6_addsPerson.cls ≠ "java/lang/invoke/VarHandle" ∧ (parseMethodDescriptor yX6_addsPerson.desc).map (fun d => d.parameters.length) = some 1 := by decide +kernel
set_option maxRecDepth 100000 in
set_option maxHeartbeats 4000000 in
theorem mX6_addsPerson (l : Launch) (D : va_G) (B : nBT) (hB : nInj B) (x1 : Int32) (σ : nS) {r : Int32} {σ1 : nS} (h : fX6_addsPerson x1 σ = some (r, σ1)) : nMi l D B yX6_addsPerson wsX6_addsPerson rmX6_addsPerson [.ref (na B 63), .int x1] σ r σ1 := by
  refine nmet (cc := cX6_addsPerson) (maxL := 2) (ret := (some .boolean)) (own := RX6) (av := [.ref (na B 63), .int x1]) (nQi D B r σ1) hB (by decide) rfl rfl (Nat.le_of_ble_eq_true rfl) (fun p e s m args below meth c C0 hr => ?_)
  have hh0 : ∀ w ∈ wsX60, w ∈ wsX6_addsPerson := by decide +kernel
  have hh1 := C0.2.2.2.2.1 (Cond.fieldLink RX6 9 "NotInTheCoinModel" "s" "[I") (by decide +kernel)
  refine nx_lv (lv' := [(0, .ref (na B 63)), (1, .int x1)]) [0, 1] rfl ?_
  rw [fX6_addsPerson] at h
  refine nx_aload_n C0 0 dX6_addsPerson_0 rfl ?_
  refine nx_gX6_s C0 hh0 hh1 dX6_addsPerson_1 ?_
  refine nx_iconst (v := 1) C0 dX6_addsPerson_4 (by decide) ?_
  obtain ⟨g1, h⟩ := nguard h
  refine nx_iald C0 nI_64 g1 dX6_addsPerson_5 ?_
  refine nx_bipush (v := 6) C0 dX6_addsPerson_6 (by decide) ?_
  refine nx_icmp_ne (tgt := 13) C0 dX6_addsPerson_8 (by decide) (fun q => ?_) (fun q => ?_)
  · have h := niff q h
    refine nx_aload_n C0 0 dX6_addsPerson_13 rfl ?_
    refine nx_gX6_s C0 hh0 hh1 dX6_addsPerson_14 ?_
    refine nx_bipush (v := 28) C0 dX6_addsPerson_17 (by decide) ?_
    refine nx_aload_n C0 0 dX6_addsPerson_19 rfl ?_
    refine nx_gX6_s C0 hh0 hh1 dX6_addsPerson_20 ?_
    refine nx_iconst (v := 1) C0 dX6_addsPerson_23 (by decide) ?_
    obtain ⟨g2, h⟩ := nguard h
    refine nx_iald C0 nI_64 g2 dX6_addsPerson_24 ?_
    refine nx_iadd C0 dX6_addsPerson_25 ?_
    refine nx_iload_n C0 1 dX6_addsPerson_26 rfl ?_
    obtain ⟨g3, h⟩ := nguard h
    obtain ⟨t4, et4, h⟩ := nlet h
    refine nx_iast C0 nI_64 g3 dX6_addsPerson_27 et4 ?_
    refine nx_aload_n C0 0 dX6_addsPerson_28 rfl ?_
    refine nx_gX6_s C0 hh0 hh1 dX6_addsPerson_29 ?_
    refine nx_iconst (v := 1) C0 dX6_addsPerson_32 (by decide) ?_
    refine nx_dup2 C0 dX6_addsPerson_33 rfl rfl ?_
    obtain ⟨g5, h⟩ := nguard h
    refine nx_iald C0 nI_64 g5 dX6_addsPerson_34 ?_
    refine nx_iconst (v := 1) C0 dX6_addsPerson_35 (by decide) ?_
    refine nx_iadd C0 dX6_addsPerson_36 ?_
    obtain ⟨g6, h⟩ := nguard h
    obtain ⟨t7, et7, h⟩ := nlet h
    refine nx_iast C0 nI_64 g6 dX6_addsPerson_37 et7 ?_
    refine nx_iconst (v := 1) C0 dX6_addsPerson_38 (by decide) ?_
    exact nr_z2 C0 hr (Or.inr rfl) dX6_addsPerson_39 h
  · have h := nift q h
    refine nx_iconst (v := 0) C0 dX6_addsPerson_11 (by decide) ?_
    exact nr_z2 C0 hr (Or.inl rfl) dX6_addsPerson_12 h
def rmX6_addsGood : Room := { frames := 1, cells := 0, slots := 0, locals := 20 }
theorem ndX6_addsGood : yX6_addsGood.cls = RX6 ∧ yX6_addsGood.cls ≠ "java/lang/invoke/MethodHandle" ∧ yX6_addsGood.cls ≠ "java/lang/invoke/VarHandle" ∧ (parseMethodDescriptor yX6_addsGood.desc).map (fun d => d.parameters.length) = some 3 := by decide +kernel
set_option maxRecDepth 100000 in
set_option maxHeartbeats 4000000 in
theorem mX6_addsGood (l : Launch) (D : va_G) (B : nBT) (hB : nInj B) (x1 : Int32) (x2 : Int32) (x3 : Int32) (σ : nS)  {σ1 : nS} (h : fX6_addsGood x1 x2 x3 σ = some ((), σ1)) : nMv l D B yX6_addsGood wsX6_addsGood rmX6_addsGood [.ref (na B 63), .int x1, .int x2, .int x3] σ σ1 := by
  refine nmet (cc := cX6_addsGood) (maxL := 5) (ret := none) (own := RX6) (av := [.ref (na B 63), .int x1, .int x2, .int x3]) (nQv D B σ1) hB (by decide) rfl rfl (Nat.le_of_ble_eq_true rfl) (fun p e s m args below meth c C0 hr => ?_)
  have hh0 : ∀ w ∈ wsX60, w ∈ wsX6_addsGood := by decide +kernel
  have hh1 := C0.2.2.2.2.1 (Cond.fieldLink RX6 9 "NotInTheCoinModel" "s" "[I") (by decide +kernel)
  refine nx_lv (lv' := [(0, .ref (na B 63)), (1, .int x1), (2, .int x2), (3, .int x3)]) [0, 1, 2, 3] rfl ?_
  rw [fX6_addsGood] at h
  refine nx_aload_n C0 0 dX6_addsGood_0 rfl ?_
  refine nx_gX6_s C0 hh0 hh1 dX6_addsGood_1 ?_
  refine nx_iconst (v := 0) C0 dX6_addsGood_4 (by decide) ?_
  obtain ⟨g1, h⟩ := nguard h
  refine nx_iald C0 nI_64 g1 dX6_addsGood_5 ?_
  obtain ⟨r3, c2, h⟩ := nbind h
  refine nx_cSi (n := 1) (As := [.int (σ 64 ((0 : Int32)).toNatClampNeg)]) (st := []) C0 (mX6_ofG l D B hB (σ 64 ((0 : Int32)).toNatClampNeg) σ c2) gX6_addsGood_X6_ofG rfl rfl rfl ndX6_ofG ⟨Nat.le_of_ble_eq_true rfl, Nat.le_of_ble_eq_true rfl⟩ rfl (Nat.le_of_ble_eq_true rfl) rfl dX6_addsGood_6 ?_
  refine nx_istore (i := 4) (y := r3) (lv' := [(4, .int r3), (0, .ref (na B 63)), (1, .int x1), (2, .int x2), (3, .int x3)]) C0 dX6_addsGood_9 (by decide) rfl rfl ?_
  refine nx_aload_n C0 1 dX6_addsGood_11 rfl ?_
  refine nx_gX6_s C0 hh0 hh1 dX6_addsGood_12 ?_
  refine nx_iload C0 0 dX6_addsGood_15 rfl ?_
  refine nx_iconst (v := 0) C0 dX6_addsGood_17 (by decide) ?_
  refine nx_iadd C0 dX6_addsGood_18 ?_
  refine nx_iload_n C0 2 dX6_addsGood_19 rfl ?_
  obtain ⟨g4, h⟩ := nguard h
  obtain ⟨t5, et5, h⟩ := nlet h
  refine nx_iast C0 nI_64 g4 dX6_addsGood_20 et5 ?_
  refine nx_aload_n C0 1 dX6_addsGood_21 rfl ?_
  refine nx_gX6_s C0 hh0 hh1 dX6_addsGood_22 ?_
  refine nx_iload C0 0 dX6_addsGood_25 rfl ?_
  refine nx_iconst (v := 1) C0 dX6_addsGood_27 (by decide) ?_
  refine nx_iadd C0 dX6_addsGood_28 ?_
  refine nx_iload_n C0 3 dX6_addsGood_29 rfl ?_
  obtain ⟨g6, h⟩ := nguard h
  obtain ⟨t7, et7, h⟩ := nlet h
  refine nx_iast C0 nI_64 g6 dX6_addsGood_30 et7 ?_
  refine nx_aload_n C0 1 dX6_addsGood_31 rfl ?_
  refine nx_gX6_s C0 hh0 hh1 dX6_addsGood_32 ?_
  refine nx_iload C0 0 dX6_addsGood_35 rfl ?_
  refine nx_iconst (v := 2) C0 dX6_addsGood_37 (by decide) ?_
  refine nx_iadd C0 dX6_addsGood_38 ?_
  refine nx_iload_n C0 4 dX6_addsGood_39 rfl ?_
  obtain ⟨g8, h⟩ := nguard h
  obtain ⟨t9, et9, h⟩ := nlet h
  refine nx_iast C0 nI_64 g8 dX6_addsGood_40 et9 ?_
  refine nx_aload_n C0 1 dX6_addsGood_41 rfl ?_
  refine nx_gX6_s C0 hh0 hh1 dX6_addsGood_42 ?_
  refine nx_iconst (v := 0) C0 dX6_addsGood_45 (by decide) ?_
  refine nx_dup2 C0 dX6_addsGood_46 rfl rfl ?_
  obtain ⟨g10, h⟩ := nguard h
  refine nx_iald C0 nI_64 g10 dX6_addsGood_47 ?_
  refine nx_iconst (v := 1) C0 dX6_addsGood_48 (by decide) ?_
  refine nx_iadd C0 dX6_addsGood_49 ?_
  obtain ⟨g11, h⟩ := nguard h
  obtain ⟨t12, et12, h⟩ := nlet h
  refine nx_iast C0 nI_64 g11 dX6_addsGood_50 et12 ?_
  exact nr_v2 C0 hr dX6_addsGood_51 h
def rmX6_addsLoan : Room := { frames := 1, cells := 0, slots := 0, locals := 20 }
theorem ndX6_addsLoan : yX6_addsLoan.cls = RX6 ∧ yX6_addsLoan.cls ≠ "java/lang/invoke/MethodHandle" ∧ yX6_addsLoan.cls ≠ "java/lang/invoke/VarHandle" ∧ (parseMethodDescriptor yX6_addsLoan.desc).map (fun d => d.parameters.length) = some 2 := by decide +kernel
set_option maxRecDepth 100000 in
set_option maxHeartbeats 4000000 in
theorem mX6_addsLoan (l : Launch) (D : va_G) (B : nBT) (hB : nInj B) (x1 : Int32) (x2 : Int32) (σ : nS)  {σ1 : nS} (h : fX6_addsLoan x1 x2 σ = some ((), σ1)) : nMv l D B yX6_addsLoan wsX6_addsLoan rmX6_addsLoan [.ref (na B 63), .int x1, .int x2] σ σ1 := by
  refine nmet (cc := cX6_addsLoan) (maxL := 4) (ret := none) (own := RX6) (av := [.ref (na B 63), .int x1, .int x2]) (nQv D B σ1) hB (by decide) rfl rfl (Nat.le_of_ble_eq_true rfl) (fun p e s m args below meth c C0 hr => ?_)
  have hh0 : ∀ w ∈ wsX60, w ∈ wsX6_addsLoan := by decide +kernel
  have hh1 := C0.2.2.2.2.1 (Cond.fieldLink RX6 9 "NotInTheCoinModel" "s" "[I") (by decide +kernel)
  refine nx_lv (lv' := [(0, .ref (na B 63)), (1, .int x1), (2, .int x2)]) [0, 1, 2] rfl ?_
  rw [fX6_addsLoan] at h
  refine nx_aload_n C0 0 dX6_addsLoan_0 rfl ?_
  refine nx_gX6_s C0 hh0 hh1 dX6_addsLoan_1 ?_
  refine nx_iconst (v := 2) C0 dX6_addsLoan_4 (by decide) ?_
  obtain ⟨g1, h⟩ := nguard h
  refine nx_iald C0 nI_64 g1 dX6_addsLoan_5 ?_
  obtain ⟨r3, c2, h⟩ := nbind h
  refine nx_cSi (n := 1) (As := [.int (σ 64 ((2 : Int32)).toNatClampNeg)]) (st := []) C0 (mX6_ofL l D B hB (σ 64 ((2 : Int32)).toNatClampNeg) σ c2) gX6_addsLoan_X6_ofL rfl rfl rfl ndX6_ofL ⟨Nat.le_of_ble_eq_true rfl, Nat.le_of_ble_eq_true rfl⟩ rfl (Nat.le_of_ble_eq_true rfl) rfl dX6_addsLoan_6 ?_
  refine nx_istore_n (i := 3) (y := r3) (lv' := [(3, .int r3), (0, .ref (na B 63)), (1, .int x1), (2, .int x2)]) C0 dX6_addsLoan_9 rfl (by decide) rfl rfl ?_
  refine nx_aload_n C0 1 dX6_addsLoan_10 rfl ?_
  refine nx_gX6_s C0 hh0 hh1 dX6_addsLoan_11 ?_
  refine nx_iload_n C0 0 dX6_addsLoan_14 rfl ?_
  refine nx_iconst (v := 0) C0 dX6_addsLoan_15 (by decide) ?_
  refine nx_iadd C0 dX6_addsLoan_16 ?_
  refine nx_aload_n C0 1 dX6_addsLoan_17 rfl ?_
  refine nx_gX6_s C0 hh0 hh1 dX6_addsLoan_18 ?_
  refine nx_iload_n C0 2 dX6_addsLoan_21 rfl ?_
  obtain ⟨r5, c4, h⟩ := nbind h
  refine nx_cSi (n := 1) (As := [.int x1]) (st := [.ref (na B 64), .int (r3 + (0 : Int32)), .ref (na B 64)]) C0 (mX6_ofG l D B hB x1 σ c4) gX6_addsLoan_X6_ofG rfl rfl rfl ndX6_ofG ⟨Nat.le_of_ble_eq_true rfl, Nat.le_of_ble_eq_true rfl⟩ rfl (Nat.le_of_ble_eq_true rfl) rfl dX6_addsLoan_22 ?_
  refine nx_iconst (v := 2) C0 dX6_addsLoan_25 (by decide) ?_
  refine nx_iadd C0 dX6_addsLoan_26 ?_
  obtain ⟨g6, h⟩ := nguard h
  refine nx_iald C0 nI_64 g6 dX6_addsLoan_27 ?_
  obtain ⟨g7, h⟩ := nguard h
  obtain ⟨t8, et8, h⟩ := nlet h
  refine nx_iast C0 nI_64 g7 dX6_addsLoan_28 et8 ?_
  refine nx_aload_n C0 1 dX6_addsLoan_29 rfl ?_
  refine nx_gX6_s C0 hh0 hh1 dX6_addsLoan_30 ?_
  refine nx_iload_n C0 0 dX6_addsLoan_33 rfl ?_
  refine nx_iconst (v := 1) C0 dX6_addsLoan_34 (by decide) ?_
  refine nx_iadd C0 dX6_addsLoan_35 ?_
  refine nx_iload_n C0 3 dX6_addsLoan_36 rfl ?_
  obtain ⟨g9, h⟩ := nguard h
  obtain ⟨t10, et10, h⟩ := nlet h
  refine nx_iast C0 nI_64 g9 dX6_addsLoan_37 et10 ?_
  refine nx_aload_n C0 1 dX6_addsLoan_38 rfl ?_
  refine nx_gX6_s C0 hh0 hh1 dX6_addsLoan_39 ?_
  refine nx_iload_n C0 0 dX6_addsLoan_42 rfl ?_
  refine nx_iconst (v := 2) C0 dX6_addsLoan_43 (by decide) ?_
  refine nx_iadd C0 dX6_addsLoan_44 ?_
  refine nx_iload_n C0 2 dX6_addsLoan_45 rfl ?_
  obtain ⟨g11, h⟩ := nguard h
  obtain ⟨t12, et12, h⟩ := nlet h
  refine nx_iast C0 nI_64 g11 dX6_addsLoan_46 et12 ?_
  refine nx_aload_n C0 1 dX6_addsLoan_47 rfl ?_
  refine nx_gX6_s C0 hh0 hh1 dX6_addsLoan_48 ?_
  refine nx_iload_n C0 0 dX6_addsLoan_51 rfl ?_
  refine nx_iconst (v := 3) C0 dX6_addsLoan_52 (by decide) ?_
  refine nx_iadd C0 dX6_addsLoan_53 ?_
  refine nx_iconst (v := 1) C0 dX6_addsLoan_54 (by decide) ?_
  obtain ⟨g13, h⟩ := nguard h
  obtain ⟨t14, et14, h⟩ := nlet h
  refine nx_iast C0 nI_64 g13 dX6_addsLoan_55 et14 ?_
  refine nx_aload_n C0 1 dX6_addsLoan_56 rfl ?_
  refine nx_gX6_s C0 hh0 hh1 dX6_addsLoan_57 ?_
  refine nx_iload_n C0 2 dX6_addsLoan_60 rfl ?_
  obtain ⟨r16, c15, h⟩ := nbind h
  refine nx_cSi (n := 1) (As := [.int x1]) (st := [.ref (na B 64)]) C0 (mX6_ofG l D B hB x1 t14 c15) gX6_addsLoan_X6_ofG rfl rfl rfl ndX6_ofG ⟨Nat.le_of_ble_eq_true rfl, Nat.le_of_ble_eq_true rfl⟩ rfl (Nat.le_of_ble_eq_true rfl) rfl dX6_addsLoan_61 ?_
  refine nx_iconst (v := 2) C0 dX6_addsLoan_64 (by decide) ?_
  refine nx_iadd C0 dX6_addsLoan_65 ?_
  refine nx_iload_n C0 3 dX6_addsLoan_66 rfl ?_
  obtain ⟨g17, h⟩ := nguard h
  obtain ⟨t18, et18, h⟩ := nlet h
  refine nx_iast C0 nI_64 g17 dX6_addsLoan_67 et18 ?_
  refine nx_aload_n C0 1 dX6_addsLoan_68 rfl ?_
  refine nx_gX6_s C0 hh0 hh1 dX6_addsLoan_69 ?_
  refine nx_iconst (v := 2) C0 dX6_addsLoan_72 (by decide) ?_
  refine nx_dup2 C0 dX6_addsLoan_73 rfl rfl ?_
  obtain ⟨g19, h⟩ := nguard h
  refine nx_iald C0 nI_64 g19 dX6_addsLoan_74 ?_
  refine nx_iconst (v := 1) C0 dX6_addsLoan_75 (by decide) ?_
  refine nx_iadd C0 dX6_addsLoan_76 ?_
  obtain ⟨g20, h⟩ := nguard h
  obtain ⟨t21, et21, h⟩ := nlet h
  refine nx_iast C0 nI_64 g20 dX6_addsLoan_77 et21 ?_
  exact nr_v2 C0 hr dX6_addsLoan_78 h
