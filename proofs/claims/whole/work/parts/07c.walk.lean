def rmX4_passWeeks : Room := { frames := 4, cells := 0, slots := 0, locals := 99 }
theorem ndX4_passWeeks : yX4_passWeeks.cls = RX4 ∧ yX4_passWeeks.cls ≠ "java/lang/invoke/MethodHandle" ∧ yX4_passWeeks.cls ≠ "java/lang/invoke/VarHandle" ∧ (parseMethodDescriptor yX4_passWeeks.desc).map (fun d => d.parameters.length) = some 1 := by decide +kernel
set_option maxRecDepth 100000 in
set_option maxHeartbeats 4000000 in
theorem mX4_passWeeks (l : Launch) (D : va_G) (B : nBT) (hB : nInj B) {k0 : Nat} (hk0 : nT k0) (x1 : Int32) (σ : nS) {r : Int32} {σ1 : nS} (h : fX4_passWeeks k0 x1 σ = some (r, σ1)) : nMi l D B yX4_passWeeks wsX4_passWeeks rmX4_passWeeks [.ref (na B k0), .int x1] σ r σ1 := by
  refine nmet (cc := cX4_passWeeks) (maxL := 3) (ret := (some .int)) (own := RX4) (av := [.ref (na B k0), .int x1]) (nQi D B r σ1) hB (by decide) rfl rfl (Nat.le_of_ble_eq_true rfl) (fun p e s m args below meth c C0 hr => ?_)
  have hh0 : ∀ w ∈ wsX40, w ∈ wsX4_passWeeks := by decide +kernel
  have hh1 := C0.2.2.2.2.1 (Cond.fieldLink RX4 52 "NotInTheCoin$Town" "open" "I") (by decide +kernel)
  have hh2 := C0.2.2.2.2.1 (Cond.fieldLink RX4 55 "NotInTheCoin$Town" "week" "I") (by decide +kernel)
  have hfX4_passWeeks_b30 : ∀  (n : Nat) (k_0 : Nat) (hk_0 : nT k_0) (a1 : Int32) (a2 : Int32) (σ : nS) (h : fX4_passWeeks_b30  n k_0 a1 a2 σ = some (r, σ1)), nJ p l e rmX4_passWeeks s m args below meth c 0 0 (MQ below (nQi D B r σ1 s.heap.size) args s 0 0 (nA B s.heap.size)) D B 3 30 [(0, .ref (na B k_0)), (1, .int a1), (2, .int a2)] [] σ := by
    intro  n
    induction n with
    | zero => intro k_0 hk_0 a1 a2 σ h; cases h
    | succ n ih =>
        intro k_0 hk_0 a1 a2 σ h
        rw [fX4_passWeeks_b30] at h
        refine nx_iload_n C0 2 dX4_passWeeks_30 rfl ?_
        refine nx_iload_n C0 1 dX4_passWeeks_31 rfl ?_
        refine nx_icmp_ge (tgt := 45) C0 dX4_passWeeks_32 (by decide) (fun q => ?_) (fun q => ?_)
        · have h := nift q h
          refine nx_aload_n C0 0 dX4_passWeeks_45 rfl ?_
          refine nx_gX4_open C0 hk_0 hh0 hh1 dX4_passWeeks_46 ?_
          obtain ⟨r2, c1, h⟩ := nbind h
          refine nx_cSi (n := 1) (As := [.int (σ k_0 10)]) (st := []) C0 (mJ6_bitCount_0f7a4 l D B hB (σ k_0 10) σ c1) gX4_passWeeks_J6_bitCount_0f7a4 rfl rfl rfl ndJ6_bitCount_0f7a4 ⟨Nat.le_of_ble_eq_true rfl, Nat.le_of_ble_eq_true rfl⟩ rfl (Nat.le_of_ble_eq_true rfl) rfl dX4_passWeeks_49 ?_
          exact nr_i2 C0 hr dX4_passWeeks_52 h
        · have h := niff q h
          refine nx_aload_n C0 0 dX4_passWeeks_35 rfl ?_
          obtain ⟨r4, t5, c3, h⟩ := nbind2 h
          refine nx_cVv (ci := 4) (n := 0) (As := []) (st := []) C0 (mX4_passWeek l D B hB hk_0 σ c3) gX4_passWeeks_X4_passWeek rfl rfl rfl ndX4_passWeek ⟨Nat.le_of_ble_eq_true rfl, Nat.le_of_ble_eq_true rfl⟩ (by have := nT_lt hk_0; omega) (nT_e hk_0 _) rfl rfl rfl (Nat.le_of_ble_eq_true rfl) rfl dX4_passWeeks_36 ?_
          obtain ⟨v6, ev6, h⟩ := nlet h
          refine nx_iinc (v := v6) (lv' := [(2, .int v6), (0, .ref (na B k_0)), (1, .int a1)]) C0 2 dX4_passWeeks_39 rfl ev6 (by decide) rfl ?_
          refine nx_goto (tgt := 30) C0 dX4_passWeeks_42 (by decide) ?_
          refine nx_lv (lv' := [(0, .ref (na B k_0)), (1, .int a1), (2, .int v6)]) [1, 2, 0] rfl ?_
          exact ih k_0 hk_0 a1 v6 t5 h
  refine nx_lv (lv' := [(0, .ref (na B k0)), (1, .int x1)]) [0, 1] rfl ?_
  rw [fX4_passWeeks] at h
  refine nx_iload_n C0 1 dX4_passWeeks_0 rfl ?_
  refine nx_iconst (v := 1) C0 dX4_passWeeks_1 (by decide) ?_
  refine nx_icmp_lt (tgt := 11) C0 dX4_passWeeks_2 (by decide) (fun q => ?_) (fun q => ?_)
  · have h := nift q h
    refine nx_iconst (v := -1) C0 dX4_passWeeks_11 (by decide) ?_
    exact nr_i2 C0 hr dX4_passWeeks_12 h
  · have h := niff q h
    refine nx_iload_n C0 1 dX4_passWeeks_5 rfl ?_
    refine nx_bipush (v := 60) C0 dX4_passWeeks_6 (by decide) ?_
    refine nx_icmp_le (tgt := 13) C0 dX4_passWeeks_8 (by decide) (fun q => ?_) (fun q => ?_)
    · have h := nift q h
      refine nx_aload_n C0 0 dX4_passWeeks_13 rfl ?_
      refine nx_gX4_week C0 hk0 hh0 hh2 dX4_passWeeks_14 ?_
      refine nx_iload_n C0 1 dX4_passWeeks_17 rfl ?_
      refine nx_iadd C0 dX4_passWeeks_18 ?_
      refine nx_sipush (v := 999) C0 dX4_passWeeks_19 (by decide) ?_
      refine nx_icmp_le (tgt := 28) C0 dX4_passWeeks_22 (by decide) (fun q => ?_) (fun q => ?_)
      · have h := nift q h
        refine nx_iconst (v := 0) C0 dX4_passWeeks_28 (by decide) ?_
        refine nx_istore_n (i := 2) (y := (0 : Int32)) (lv' := [(2, .int (0 : Int32)), (0, .ref (na B k0)), (1, .int x1)]) C0 dX4_passWeeks_29 rfl (by decide) rfl rfl ?_
        refine nx_lv (lv' := [(0, .ref (na B k0)), (1, .int x1), (2, .int (0 : Int32))]) [1, 2, 0] rfl ?_
        exact hfX4_passWeeks_b30 4096 k0 hk0 x1 (0 : Int32) σ h
      · have h := niff q h
        refine nx_bipush (v := -3) C0 dX4_passWeeks_25 (by decide) ?_
        exact nr_i2 C0 hr dX4_passWeeks_27 h
    · have h := niff q h
      refine nx_iconst (v := -1) C0 dX4_passWeeks_11 (by decide) ?_
      exact nr_i2 C0 hr dX4_passWeeks_12 h
def rmX4_isTaken : Room := { frames := 2, cells := 0, slots := 0, locals := 55 }
theorem ndX4_isTaken : yX4_isTaken.cls = RX4 ∧ yX4_isTaken.cls ≠ "java/lang/invoke/MethodHandle" ∧ yX4_isTaken.cls ≠ "java/lang/invoke/VarHandle" ∧ (parseMethodDescriptor yX4_isTaken.desc).map (fun d => d.parameters.length) = some 3 := by decide +kernel
set_option maxRecDepth 100000 in
set_option maxHeartbeats 4000000 in
theorem mX4_isTaken (l : Launch) (D : va_G) (B : nBT) (hB : nInj B) {k0 : Nat} (hk0 : nT k0) (x1 : Int32) (x2 : Int32) (x3 : Int32) (σ : nS) {r : Int32}  (h : fX4_isTaken k0 x1 x2 x3 σ = some r) : nMi l D B yX4_isTaken wsX4_isTaken rmX4_isTaken [.ref (na B k0), .int x1, .int x2, .int x3] σ r σ := by
  refine nmet (cc := cX4_isTaken) (maxL := 4) (ret := (some .boolean)) (own := RX4) (av := [.ref (na B k0), .int x1, .int x2, .int x3]) (nQi D B r σ) hB (by decide) rfl rfl (Nat.le_of_ble_eq_true rfl) (fun p e s m args below meth c C0 hr => ?_)
  have hh0 := C0.2.2.2.2.1 (Cond.static yX5_has) (by decide +kernel)
  have hh1 := C0.2.2.2.2.1 (Cond.initialized RX5) (by decide +kernel)
  refine nx_lv (lv' := [(0, .ref (na B k0)), (1, .int x1), (2, .int x2), (3, .int x3)]) [0, 1, 2, 3] rfl ?_
  rw [fX4_isTaken] at h
  refine nx_aload_n C0 0 dX4_isTaken_0 rfl ?_
  refine nx_iload_n C0 1 dX4_isTaken_1 rfl ?_
  refine nx_iload_n C0 2 dX4_isTaken_2 rfl ?_
  obtain ⟨r2, c1, h⟩ := nbind h
  refine nx_cVi (ci := 4) (n := 2) (As := [.int x1, .int x2]) (st := []) C0 (mX4_takenFor l D B hB hk0 x1 x2 σ c1) gX4_isTaken_X4_takenFor rfl rfl rfl ndX4_takenFor ⟨Nat.le_of_ble_eq_true rfl, Nat.le_of_ble_eq_true rfl⟩ (by have := nT_lt hk0; omega) (nT_e hk0 _) rfl rfl rfl (Nat.le_of_ble_eq_true rfl) rfl dX4_isTaken_3 ?_
  refine nx_iload_n C0 3 dX4_isTaken_6 rfl ?_
  obtain ⟨r4, c3, h⟩ := nbind h
  refine nx_cNi (n := 2) (As := [.int r2, .int x3]) (st := []) C0 (mX5_has l D B hB r2 x3 σ c3) gX4_isTaken_X5_has_n99 (by decide +kernel) hh0 hh1 rfl rfl rfl ndX5_has ⟨Nat.le_of_ble_eq_true rfl, Nat.le_of_ble_eq_true rfl⟩ rfl (Nat.le_of_ble_eq_true rfl) rfl dX4_isTaken_7 ?_
  obtain ⟨g5, h⟩ := nguard h
  exact nr_z C0 hr g5 dX4_isTaken_10 h
def rmX4_wealth : Room := { frames := 2, cells := 0, slots := 0, locals := 50 }
theorem ndX4_wealth : yX4_wealth.cls = RX4 ∧ yX4_wealth.cls ≠ "java/lang/invoke/MethodHandle" ∧ yX4_wealth.cls ≠ "java/lang/invoke/VarHandle" ∧ (parseMethodDescriptor yX4_wealth.desc).map (fun d => d.parameters.length) = some 1 := by decide +kernel
set_option maxRecDepth 100000 in
set_option maxHeartbeats 4000000 in
theorem mX4_wealth (l : Launch) (D : va_G) (B : nBT) (hB : nInj B) {k0 : Nat} (hk0 : nT k0) (x1 : Int32) (σ : nS) {r : Int32}  (h : fX4_wealth k0 x1 σ = some r) : nMi l D B yX4_wealth wsX4_wealth rmX4_wealth [.ref (na B k0), .int x1] σ r σ := by
  refine nmet (cc := cX4_wealth) (maxL := 4) (ret := (some .int)) (own := RX4) (av := [.ref (na B k0), .int x1]) (nQi D B r σ) hB (by decide) rfl rfl (Nat.le_of_ble_eq_true rfl) (fun p e s m args below meth c C0 hr => ?_)
  have hh0 : ∀ w ∈ wsX40, w ∈ wsX4_wealth := by decide +kernel
  have hh1 := C0.2.2.2.2.1 (Cond.fieldLink RX4 42 "NotInTheCoin$Town" "goods" "I") (by decide +kernel)
  have hh2 := C0.2.2.2.2.1 (Cond.fieldLink RX4 18 "NotInTheCoin$Town" "ownerOf" "[I") (by decide +kernel)
  have hfX4_wealth_b4 : ∀  (n : Nat) (k_0 : Nat) (hk_0 : nT k_0) (a1 : Int32) (a2 : Int32) (a3 : Int32) (h : fX4_wealth_b4  n k_0 a1 a2 a3 σ = some r), nJ p l e rmX4_wealth s m args below meth c 0 0 (MQ below (nQi D B r σ s.heap.size) args s 0 0 (nA B s.heap.size)) D B 4 4 [(0, .ref (na B k_0)), (1, .int a1), (2, .int a2), (3, .int a3)] [] σ := by
    intro  n
    induction n with
    | zero => intro k_0 hk_0 a1 a2 a3 h; cases h
    | succ n ih =>
        intro k_0 hk_0 a1 a2 a3 h
        rw [fX4_wealth_b4] at h
        refine nx_iload_n C0 3 dX4_wealth_4 rfl ?_
        refine nx_aload_n C0 0 dX4_wealth_5 rfl ?_
        refine nx_gX4_goods C0 hk_0 hh0 hh1 dX4_wealth_6 ?_
        refine nx_icmp_ge (tgt := 37) C0 dX4_wealth_9 (by decide) (fun q => ?_) (fun q => ?_)
        · have h := nift q h
          refine nx_iload_n C0 2 dX4_wealth_37 rfl ?_
          exact nr_i C0 hr dX4_wealth_38 h
        · have h := niff q h
          refine nx_aload_n C0 0 dX4_wealth_12 rfl ?_
          refine nx_gX4_ownerOf C0 hk_0 hh0 hh2 dX4_wealth_13 ?_
          refine nx_iload_n C0 3 dX4_wealth_16 rfl ?_
          obtain ⟨g1, h⟩ := nguard h
          refine nx_iald C0 (nT_a3 hk_0) g1 dX4_wealth_17 ?_
          refine nx_iload_n C0 1 dX4_wealth_18 rfl ?_
          refine nx_icmp_ne (tgt := 31) C0 dX4_wealth_19 (by decide) (fun q => ?_) (fun q => ?_)
          · have h := niff q h
            obtain ⟨v2, ev2, h⟩ := nlet h
            refine nx_iinc (v := v2) (lv' := [(3, .int v2), (0, .ref (na B k_0)), (1, .int a1), (2, .int a2)]) C0 3 dX4_wealth_31 rfl ev2 (by decide) rfl ?_
            refine nx_goto (tgt := 4) C0 dX4_wealth_34 (by decide) ?_
            refine nx_lv (lv' := [(0, .ref (na B k_0)), (1, .int a1), (2, .int a2), (3, .int v2)]) [1, 2, 3, 0] rfl ?_
            exact ih k_0 hk_0 a1 a2 v2 h
          · have h := nift q h
            refine nx_iload_n C0 2 dX4_wealth_22 rfl ?_
            refine nx_aload_n C0 0 dX4_wealth_23 rfl ?_
            refine nx_iload_n C0 1 dX4_wealth_24 rfl ?_
            refine nx_iload_n C0 3 dX4_wealth_25 rfl ?_
            obtain ⟨r4, c3, h⟩ := nbind h
            refine nx_cVi (ci := 4) (n := 2) (As := [.int a1, .int a3]) (st := [.int a2]) C0 (mX4_worthTo l D B hB hk_0 a1 a3 σ c3) gX4_wealth_X4_worthTo rfl rfl rfl ndX4_worthTo ⟨Nat.le_of_ble_eq_true rfl, Nat.le_of_ble_eq_true rfl⟩ (by have := nT_lt hk_0; omega) (nT_e hk_0 _) rfl rfl rfl (Nat.le_of_ble_eq_true rfl) rfl dX4_wealth_26 ?_
            refine nx_iadd C0 dX4_wealth_29 ?_
            obtain ⟨v5, ev5, h⟩ := nlet h
            refine nx_istore_n (i := 2) (y := v5) (lv' := [(2, .int v5), (0, .ref (na B k_0)), (1, .int a1), (3, .int a3)]) C0 dX4_wealth_30 rfl (by decide) ev5 rfl ?_
            obtain ⟨v6, ev6, h⟩ := nlet h
            refine nx_iinc (v := v6) (lv' := [(3, .int v6), (2, .int v5), (0, .ref (na B k_0)), (1, .int a1)]) C0 3 dX4_wealth_31 rfl ev6 (by decide) rfl ?_
            refine nx_goto (tgt := 4) C0 dX4_wealth_34 (by decide) ?_
            refine nx_lv (lv' := [(0, .ref (na B k_0)), (1, .int a1), (2, .int v5), (3, .int v6)]) [2, 3, 1, 0] rfl ?_
            exact ih k_0 hk_0 a1 v5 v6 h
  refine nx_lv (lv' := [(0, .ref (na B k0)), (1, .int x1)]) [0, 1] rfl ?_
  rw [fX4_wealth] at h
  refine nx_iconst (v := 0) C0 dX4_wealth_0 (by decide) ?_
  refine nx_istore_n (i := 2) (y := (0 : Int32)) (lv' := [(2, .int (0 : Int32)), (0, .ref (na B k0)), (1, .int x1)]) C0 dX4_wealth_1 rfl (by decide) rfl rfl ?_
  refine nx_iconst (v := 0) C0 dX4_wealth_2 (by decide) ?_
  refine nx_istore_n (i := 3) (y := (0 : Int32)) (lv' := [(3, .int (0 : Int32)), (2, .int (0 : Int32)), (0, .ref (na B k0)), (1, .int x1)]) C0 dX4_wealth_3 rfl (by decide) rfl rfl ?_
  refine nx_lv (lv' := [(0, .ref (na B k0)), (1, .int x1), (2, .int (0 : Int32)), (3, .int (0 : Int32))]) [2, 3, 1, 0] rfl ?_
  exact hfX4_wealth_b4 4096 k0 hk0 x1 (0 : Int32) (0 : Int32) h
def rmX4_allWealth : Room := { frames := 3, cells := 0, slots := 0, locals := 73 }
theorem ndX4_allWealth : yX4_allWealth.cls = RX4 ∧ yX4_allWealth.cls ≠ "java/lang/invoke/MethodHandle" ∧ yX4_allWealth.cls ≠ "java/lang/invoke/VarHandle" ∧ (parseMethodDescriptor yX4_allWealth.desc).map (fun d => d.parameters.length) = some 0 := by decide +kernel
set_option maxRecDepth 100000 in
set_option maxHeartbeats 4000000 in
theorem mX4_allWealth (l : Launch) (D : va_G) (B : nBT) (hB : nInj B) {k0 : Nat} (hk0 : nT k0) (σ : nS) {r : Int32}  (h : fX4_allWealth k0 σ = some r) : nMi l D B yX4_allWealth wsX4_allWealth rmX4_allWealth [.ref (na B k0)] σ r σ := by
  refine nmet (cc := cX4_allWealth) (maxL := 3) (ret := (some .int)) (own := RX4) (av := [.ref (na B k0)]) (nQi D B r σ) hB (by decide) rfl rfl (Nat.le_of_ble_eq_true rfl) (fun p e s m args below meth c C0 hr => ?_)
  have hh0 : ∀ w ∈ wsX40, w ∈ wsX4_allWealth := by decide +kernel
  have hh1 := C0.2.2.2.2.1 (Cond.fieldLink RX4 46 "NotInTheCoin$Town" "people" "I") (by decide +kernel)
  have hfX4_allWealth_b4 : ∀  (n : Nat) (k_0 : Nat) (hk_0 : nT k_0) (a1 : Int32) (a2 : Int32) (h : fX4_allWealth_b4  n k_0 a1 a2 σ = some r), nJ p l e rmX4_allWealth s m args below meth c 0 0 (MQ below (nQi D B r σ s.heap.size) args s 0 0 (nA B s.heap.size)) D B 3 4 [(0, .ref (na B k_0)), (1, .int a1), (2, .int a2)] [] σ := by
    intro  n
    induction n with
    | zero => intro k_0 hk_0 a1 a2 h; cases h
    | succ n ih =>
        intro k_0 hk_0 a1 a2 h
        rw [fX4_allWealth_b4] at h
        refine nx_iload_n C0 2 dX4_allWealth_4 rfl ?_
        refine nx_aload_n C0 0 dX4_allWealth_5 rfl ?_
        refine nx_gX4_people C0 hk_0 hh0 hh1 dX4_allWealth_6 ?_
        refine nx_icmp_ge (tgt := 26) C0 dX4_allWealth_9 (by decide) (fun q => ?_) (fun q => ?_)
        · have h := nift q h
          refine nx_iload_n C0 1 dX4_allWealth_26 rfl ?_
          exact nr_i C0 hr dX4_allWealth_27 h
        · have h := niff q h
          refine nx_iload_n C0 1 dX4_allWealth_12 rfl ?_
          refine nx_aload_n C0 0 dX4_allWealth_13 rfl ?_
          refine nx_iload_n C0 2 dX4_allWealth_14 rfl ?_
          obtain ⟨r2, c1, h⟩ := nbind h
          refine nx_cVi (ci := 4) (n := 1) (As := [.int a2]) (st := [.int a1]) C0 (mX4_wealth l D B hB hk_0 a2 σ c1) gX4_allWealth_X4_wealth rfl rfl rfl ndX4_wealth ⟨Nat.le_of_ble_eq_true rfl, Nat.le_of_ble_eq_true rfl⟩ (by have := nT_lt hk_0; omega) (nT_e hk_0 _) rfl rfl rfl (Nat.le_of_ble_eq_true rfl) rfl dX4_allWealth_15 ?_
          refine nx_iadd C0 dX4_allWealth_18 ?_
          obtain ⟨v3, ev3, h⟩ := nlet h
          refine nx_istore_n (i := 1) (y := v3) (lv' := [(1, .int v3), (0, .ref (na B k_0)), (2, .int a2)]) C0 dX4_allWealth_19 rfl (by decide) ev3 rfl ?_
          obtain ⟨v4, ev4, h⟩ := nlet h
          refine nx_iinc (v := v4) (lv' := [(2, .int v4), (1, .int v3), (0, .ref (na B k_0))]) C0 2 dX4_allWealth_20 rfl ev4 (by decide) rfl ?_
          refine nx_goto (tgt := 4) C0 dX4_allWealth_23 (by decide) ?_
          refine nx_lv (lv' := [(0, .ref (na B k_0)), (1, .int v3), (2, .int v4)]) [2, 1, 0] rfl ?_
          exact ih k_0 hk_0 v3 v4 h
  refine nx_lv (lv' := [(0, .ref (na B k0))]) [0] rfl ?_
  rw [fX4_allWealth] at h
  refine nx_iconst (v := 0) C0 dX4_allWealth_0 (by decide) ?_
  refine nx_istore_n (i := 1) (y := (0 : Int32)) (lv' := [(1, .int (0 : Int32)), (0, .ref (na B k0))]) C0 dX4_allWealth_1 rfl (by decide) rfl rfl ?_
  refine nx_iconst (v := 0) C0 dX4_allWealth_2 (by decide) ?_
  refine nx_istore_n (i := 2) (y := (0 : Int32)) (lv' := [(2, .int (0 : Int32)), (1, .int (0 : Int32)), (0, .ref (na B k0))]) C0 dX4_allWealth_3 rfl (by decide) rfl rfl ?_
  refine nx_lv (lv' := [(0, .ref (na B k0)), (1, .int (0 : Int32)), (2, .int (0 : Int32))]) [2, 1, 0] rfl ?_
  exact hfX4_allWealth_b4 4096 k0 hk0 (0 : Int32) (0 : Int32) h
def rmX4_classes : Room := { frames := 1, cells := 0, slots := 0, locals := 20 }
theorem ndX4_classes : yX4_classes.cls = RX4 ∧ yX4_classes.cls ≠ "java/lang/invoke/MethodHandle" ∧ yX4_classes.cls ≠ "java/lang/invoke/VarHandle" ∧ (parseMethodDescriptor yX4_classes.desc).map (fun d => d.parameters.length) = some 0 := by decide +kernel
set_option maxRecDepth 100000 in
set_option maxHeartbeats 4000000 in
theorem mX4_classes (l : Launch) (D : va_G) (B : nBT) (hB : nInj B) {k0 : Nat} (hk0 : nT k0) (σ : nS) {r : Int32}  (h : fX4_classes k0 σ = some r) : nMi l D B yX4_classes wsX4_classes rmX4_classes [.ref (na B k0)] σ r σ := by
  refine nmet (cc := cX4_classes) (maxL := 3) (ret := (some .int)) (own := RX4) (av := [.ref (na B k0)]) (nQi D B r σ) hB (by decide) rfl rfl (Nat.le_of_ble_eq_true rfl) (fun p e s m args below meth c C0 hr => ?_)
  have hh0 : ∀ w ∈ wsX40, w ∈ wsX4_classes := by decide +kernel
  have hh1 := C0.2.2.2.2.1 (Cond.fieldLink RX4 33 "NotInTheCoin$Town" "classOf" "[I") (by decide +kernel)
  have hfX4_classes_b4 : ∀  (n : Nat) (k_0 : Nat) (hk_0 : nT k_0) (a1 : Int32) (a2 : Int32) (h : fX4_classes_b4  n k_0 a1 a2 σ = some r), nJ p l e rmX4_classes s m args below meth c 0 0 (MQ below (nQi D B r σ s.heap.size) args s 0 0 (nA B s.heap.size)) D B 3 4 [(0, .ref (na B k_0)), (1, .int a1), (2, .int a2)] [] σ := by
    intro  n
    induction n with
    | zero => intro k_0 hk_0 a1 a2 h; cases h
    | succ n ih =>
        intro k_0 hk_0 a1 a2 h
        rw [fX4_classes_b4] at h
        refine nx_iload_n C0 2 dX4_classes_4 rfl ?_
        refine nx_bipush (v := 8) C0 dX4_classes_5 (by decide) ?_
        refine nx_icmp_ge (tgt := 27) C0 dX4_classes_7 (by decide) (fun q => ?_) (fun q => ?_)
        · have h := nift q h
          refine nx_iload_n C0 1 dX4_classes_27 rfl ?_
          obtain ⟨r2, c1, h⟩ := nbind h
          refine nx_cSi (n := 1) (As := [.int a1]) (st := []) C0 (mJ6_bitCount_0f7a4 l D B hB a1 σ c1) gX4_classes_J6_bitCount_0f7a4 rfl rfl rfl ndJ6_bitCount_0f7a4 ⟨Nat.le_of_ble_eq_true rfl, Nat.le_of_ble_eq_true rfl⟩ rfl (Nat.le_of_ble_eq_true rfl) rfl dX4_classes_28 ?_
          exact nr_i C0 hr dX4_classes_31 h
        · have h := niff q h
          refine nx_iload_n C0 1 dX4_classes_10 rfl ?_
          refine nx_iconst (v := 1) C0 dX4_classes_11 (by decide) ?_
          refine nx_aload_n C0 0 dX4_classes_12 rfl ?_
          refine nx_gX4_classOf C0 hk_0 hh0 hh1 dX4_classes_13 ?_
          refine nx_iload_n C0 2 dX4_classes_16 rfl ?_
          obtain ⟨g3, h⟩ := nguard h
          refine nx_iald C0 (nT_a8 hk_0) g3 dX4_classes_17 ?_
          refine nx_ishl C0 dX4_classes_18 ?_
          refine nx_ior C0 dX4_classes_19 ?_
          obtain ⟨v4, ev4, h⟩ := nlet h
          refine nx_istore_n (i := 1) (y := v4) (lv' := [(1, .int v4), (0, .ref (na B k_0)), (2, .int a2)]) C0 dX4_classes_20 rfl (by decide) ev4 rfl ?_
          obtain ⟨v5, ev5, h⟩ := nlet h
          refine nx_iinc (v := v5) (lv' := [(2, .int v5), (1, .int v4), (0, .ref (na B k_0))]) C0 2 dX4_classes_21 rfl ev5 (by decide) rfl ?_
          refine nx_goto (tgt := 4) C0 dX4_classes_24 (by decide) ?_
          refine nx_lv (lv' := [(0, .ref (na B k_0)), (1, .int v4), (2, .int v5)]) [2, 1, 0] rfl ?_
          exact ih k_0 hk_0 v4 v5 h
  refine nx_lv (lv' := [(0, .ref (na B k0))]) [0] rfl ?_
  rw [fX4_classes] at h
  refine nx_iconst (v := 0) C0 dX4_classes_0 (by decide) ?_
  refine nx_istore_n (i := 1) (y := (0 : Int32)) (lv' := [(1, .int (0 : Int32)), (0, .ref (na B k0))]) C0 dX4_classes_1 rfl (by decide) rfl rfl ?_
  refine nx_iconst (v := 0) C0 dX4_classes_2 (by decide) ?_
  refine nx_istore_n (i := 2) (y := (0 : Int32)) (lv' := [(2, .int (0 : Int32)), (1, .int (0 : Int32)), (0, .ref (na B k0))]) C0 dX4_classes_3 rfl (by decide) rfl rfl ?_
  refine nx_lv (lv' := [(0, .ref (na B k0)), (1, .int (0 : Int32)), (2, .int (0 : Int32))]) [2, 1, 0] rfl ?_
  exact hfX4_classes_b4 4096 k0 hk0 (0 : Int32) (0 : Int32) h
def rmX4_isQuarrel : Room := { frames := 2, cells := 0, slots := 0, locals := 50 }
theorem ndX4_isQuarrel : yX4_isQuarrel.cls = RX4 ∧ yX4_isQuarrel.cls ≠ "java/lang/invoke/MethodHandle" ∧ yX4_isQuarrel.cls ≠ "java/lang/invoke/VarHandle" ∧ (parseMethodDescriptor yX4_isQuarrel.desc).map (fun d => d.parameters.length) = some 2 := by decide +kernel
set_option maxRecDepth 100000 in
set_option maxHeartbeats 4000000 in
theorem mX4_isQuarrel (l : Launch) (D : va_G) (B : nBT) (hB : nInj B) {k0 : Nat} (hk0 : nT k0) (x1 : Int32) (x2 : Int32) (σ : nS) {r : Int32}  (h : fX4_isQuarrel k0 x1 x2 σ = some r) : nMi l D B yX4_isQuarrel wsX4_isQuarrel rmX4_isQuarrel [.ref (na B k0), .int x1, .int x2] σ r σ := by
  refine nmet (cc := cX4_isQuarrel) (maxL := 7) (ret := (some .boolean)) (own := RX4) (av := [.ref (na B k0), .int x1, .int x2]) (nQi D B r σ) hB (by decide) rfl rfl (Nat.le_of_ble_eq_true rfl) (fun p e s m args below meth c C0 hr => ?_)
  have hh0 : ∀ w ∈ wsX40, w ∈ wsX4_isQuarrel := by decide +kernel
  have hh1 := C0.2.2.2.2.1 (Cond.fieldLink RX4 46 "NotInTheCoin$Town" "people" "I") (by decide +kernel)
  have hfX4_isQuarrel_b48 : ∀ (s8 : Nat → Int32 → Int32 → Int32 → Int32 → Int32 → nS → Option Int32) (hs8 : ∀ (k_0 : Nat) (hk_0 : nT k_0) (a1 : Int32) (a2 : Int32) (a3 : Int32) (a4 : Int32) (a5 : Int32), s8 k_0 a1 a2 a3 a4 a5 σ = some r → nJ p l e rmX4_isQuarrel s m args below meth c 0 0 (MQ below (nQi D B r σ s.heap.size) args s 0 0 (nA B s.heap.size)) D B 7 8 [(0, .ref (na B k_0)), (1, .int a1), (2, .int a2), (3, .int a3), (4, .int a4), (5, .int a5)] [] σ) (k_0 : Nat) (hk_0 : nT k_0) (a1 : Int32) (a2 : Int32) (a4 : Int32) (a5 : Int32) (a6 : Int32) (z0 : Int32) (h : fX4_isQuarrel_b48 s8 k_0 a1 a2 a4 a5 a6 z0 σ = some r), nJ p l e rmX4_isQuarrel s m args below meth c 0 0 (MQ below (nQi D B r σ s.heap.size) args s 0 0 (nA B s.heap.size)) D B 7 48 [(0, .ref (na B k_0)), (1, .int a1), (2, .int a2), (4, .int a4), (5, .int a5), (6, .int a6)] [.int z0] σ := by
    intro s8 hs8 k_0 hk_0 a1 a2 a4 a5 a6 z0 h
    rw [fX4_isQuarrel_b48] at h
    refine nx_istore_n (i := 3) (y := z0) (lv' := [(3, .int z0), (0, .ref (na B k_0)), (1, .int a1), (2, .int a2), (4, .int a4), (5, .int a5), (6, .int a6)]) C0 dX4_isQuarrel_48 rfl (by decide) rfl rfl ?_
    refine nx_iload C0 4 dX4_isQuarrel_49 rfl ?_
    refine nx_if_ne (tgt := 59) C0 dX4_isQuarrel_51 (by decide) (fun q => ?_) (fun q => ?_)
    · have h := niff q h
      refine nx_iconst (v := 1) C0 dX4_isQuarrel_59 (by decide) ?_
      refine nx_goto (tgt := 64) C0 dX4_isQuarrel_60 (by decide) ?_
      refine nx_istore (i := 4) (y := (1 : Int32)) (lv' := [(4, .int (1 : Int32)), (3, .int z0), (0, .ref (na B k_0)), (1, .int a1), (2, .int a2), (5, .int a5), (6, .int a6)]) C0 dX4_isQuarrel_64 (by decide) rfl rfl ?_
      obtain ⟨v1, ev1, h⟩ := nlet h
      refine nx_iinc (v := v1) (lv' := [(5, .int v1), (4, .int (1 : Int32)), (3, .int z0), (0, .ref (na B k_0)), (1, .int a1), (2, .int a2), (6, .int a6)]) C0 5 dX4_isQuarrel_66 rfl ev1 (by decide) rfl ?_
      refine nx_goto (tgt := 8) C0 dX4_isQuarrel_69 (by decide) ?_
      refine nx_lv (lv' := [(0, .ref (na B k_0)), (1, .int a1), (2, .int a2), (3, .int z0), (4, .int (1 : Int32)), (5, .int v1)]) [3, 4, 5, 2, 1, 0] rfl ?_
      exact hs8 k_0 hk_0 a1 a2 z0 (1 : Int32) v1 h
    · have h := nift q h
      refine nx_iload C0 6 dX4_isQuarrel_54 rfl ?_
      refine nx_if_ge (tgt := 63) C0 dX4_isQuarrel_56 (by decide) (fun q => ?_) (fun q => ?_)
      · have h := nift q h
        refine nx_iconst (v := 0) C0 dX4_isQuarrel_63 (by decide) ?_
        refine nx_istore (i := 4) (y := (0 : Int32)) (lv' := [(4, .int (0 : Int32)), (3, .int z0), (0, .ref (na B k_0)), (1, .int a1), (2, .int a2), (5, .int a5), (6, .int a6)]) C0 dX4_isQuarrel_64 (by decide) rfl rfl ?_
        obtain ⟨v2, ev2, h⟩ := nlet h
        refine nx_iinc (v := v2) (lv' := [(5, .int v2), (4, .int (0 : Int32)), (3, .int z0), (0, .ref (na B k_0)), (1, .int a1), (2, .int a2), (6, .int a6)]) C0 5 dX4_isQuarrel_66 rfl ev2 (by decide) rfl ?_
        refine nx_goto (tgt := 8) C0 dX4_isQuarrel_69 (by decide) ?_
        refine nx_lv (lv' := [(0, .ref (na B k_0)), (1, .int a1), (2, .int a2), (3, .int z0), (4, .int (0 : Int32)), (5, .int v2)]) [3, 4, 5, 2, 1, 0] rfl ?_
        exact hs8 k_0 hk_0 a1 a2 z0 (0 : Int32) v2 h
      · have h := niff q h
        refine nx_iconst (v := 1) C0 dX4_isQuarrel_59 (by decide) ?_
        refine nx_goto (tgt := 64) C0 dX4_isQuarrel_60 (by decide) ?_
        refine nx_istore (i := 4) (y := (1 : Int32)) (lv' := [(4, .int (1 : Int32)), (3, .int z0), (0, .ref (na B k_0)), (1, .int a1), (2, .int a2), (5, .int a5), (6, .int a6)]) C0 dX4_isQuarrel_64 (by decide) rfl rfl ?_
        obtain ⟨v3, ev3, h⟩ := nlet h
        refine nx_iinc (v := v3) (lv' := [(5, .int v3), (4, .int (1 : Int32)), (3, .int z0), (0, .ref (na B k_0)), (1, .int a1), (2, .int a2), (6, .int a6)]) C0 5 dX4_isQuarrel_66 rfl ev3 (by decide) rfl ?_
        refine nx_goto (tgt := 8) C0 dX4_isQuarrel_69 (by decide) ?_
        refine nx_lv (lv' := [(0, .ref (na B k_0)), (1, .int a1), (2, .int a2), (3, .int z0), (4, .int (1 : Int32)), (5, .int v3)]) [3, 4, 5, 2, 1, 0] rfl ?_
        exact hs8 k_0 hk_0 a1 a2 z0 (1 : Int32) v3 h
  have hfX4_isQuarrel_b43 : ∀ (s8 : Nat → Int32 → Int32 → Int32 → Int32 → Int32 → nS → Option Int32) (hs8 : ∀ (k_0 : Nat) (hk_0 : nT k_0) (a1 : Int32) (a2 : Int32) (a3 : Int32) (a4 : Int32) (a5 : Int32), s8 k_0 a1 a2 a3 a4 a5 σ = some r → nJ p l e rmX4_isQuarrel s m args below meth c 0 0 (MQ below (nQi D B r σ s.heap.size) args s 0 0 (nA B s.heap.size)) D B 7 8 [(0, .ref (na B k_0)), (1, .int a1), (2, .int a2), (3, .int a3), (4, .int a4), (5, .int a5)] [] σ) (k_0 : Nat) (hk_0 : nT k_0) (a1 : Int32) (a2 : Int32) (a4 : Int32) (a5 : Int32) (a6 : Int32) (h : fX4_isQuarrel_b43 s8 k_0 a1 a2 a4 a5 a6 σ = some r), nJ p l e rmX4_isQuarrel s m args below meth c 0 0 (MQ below (nQi D B r σ s.heap.size) args s 0 0 (nA B s.heap.size)) D B 7 43 [(0, .ref (na B k_0)), (1, .int a1), (2, .int a2), (4, .int a4), (5, .int a5), (6, .int a6)] [] σ := by
    intro s8 hs8 k_0 hk_0 a1 a2 a4 a5 a6 h
    rw [fX4_isQuarrel_b43] at h
    refine nx_iconst (v := 1) C0 dX4_isQuarrel_43 (by decide) ?_
    refine nx_goto (tgt := 48) C0 dX4_isQuarrel_44 (by decide) ?_
    exact hfX4_isQuarrel_b48 s8 hs8 k_0 hk_0 a1 a2 a4 a5 a6 (1 : Int32) h
  have hfX4_isQuarrel_b8 : ∀  (n : Nat) (k_0 : Nat) (hk_0 : nT k_0) (a1 : Int32) (a2 : Int32) (a3 : Int32) (a4 : Int32) (a5 : Int32) (h : fX4_isQuarrel_b8  n k_0 a1 a2 a3 a4 a5 σ = some r), nJ p l e rmX4_isQuarrel s m args below meth c 0 0 (MQ below (nQi D B r σ s.heap.size) args s 0 0 (nA B s.heap.size)) D B 7 8 [(0, .ref (na B k_0)), (1, .int a1), (2, .int a2), (3, .int a3), (4, .int a4), (5, .int a5)] [] σ := by
    intro  n
    induction n with
    | zero => intro k_0 hk_0 a1 a2 a3 a4 a5 h; cases h
    | succ n ih =>
        intro k_0 hk_0 a1 a2 a3 a4 a5 h
        rw [fX4_isQuarrel_b8] at h
        refine nx_iload C0 5 dX4_isQuarrel_8 rfl ?_
        refine nx_aload_n C0 0 dX4_isQuarrel_10 rfl ?_
        refine nx_gX4_people C0 hk_0 hh0 hh1 dX4_isQuarrel_11 ?_
        refine nx_icmp_ge (tgt := 72) C0 dX4_isQuarrel_14 (by decide) (fun q => ?_) (fun q => ?_)
        · have h := nift q h
          refine nx_iload_n C0 3 dX4_isQuarrel_72 rfl ?_
          refine nx_if_eq (tgt := 85) C0 dX4_isQuarrel_73 (by decide) (fun q => ?_) (fun q => ?_)
          · have h := nift q h
            refine nx_iconst (v := 0) C0 dX4_isQuarrel_85 (by decide) ?_
            exact nr_z C0 hr (Or.inl rfl) dX4_isQuarrel_86 h
          · have h := niff q h
            refine nx_iload C0 4 dX4_isQuarrel_76 rfl ?_
            refine nx_if_eq (tgt := 85) C0 dX4_isQuarrel_78 (by decide) (fun q => ?_) (fun q => ?_)
            · have h := nift q h
              refine nx_iconst (v := 0) C0 dX4_isQuarrel_85 (by decide) ?_
              exact nr_z C0 hr (Or.inl rfl) dX4_isQuarrel_86 h
            · have h := niff q h
              refine nx_iconst (v := 1) C0 dX4_isQuarrel_81 (by decide) ?_
              refine nx_goto (tgt := 86) C0 dX4_isQuarrel_82 (by decide) ?_
              exact nr_z C0 hr (Or.inr rfl) dX4_isQuarrel_86 h
        · have h := niff q h
          refine nx_aload_n C0 0 dX4_isQuarrel_17 rfl ?_
          refine nx_iload C0 5 dX4_isQuarrel_18 rfl ?_
          refine nx_iload_n C0 1 dX4_isQuarrel_20 rfl ?_
          obtain ⟨r5, c4, h⟩ := nbind h
          refine nx_cVi (ci := 4) (n := 2) (As := [.int a5, .int a1]) (st := []) C0 (mX4_worthTo l D B hB hk_0 a5 a1 σ c4) gX4_isQuarrel_X4_worthTo rfl rfl rfl ndX4_worthTo ⟨Nat.le_of_ble_eq_true rfl, Nat.le_of_ble_eq_true rfl⟩ (by have := nT_lt hk_0; omega) (nT_e hk_0 _) rfl rfl rfl (Nat.le_of_ble_eq_true rfl) rfl dX4_isQuarrel_21 ?_
          refine nx_aload_n C0 0 dX4_isQuarrel_24 rfl ?_
          refine nx_iload C0 5 dX4_isQuarrel_25 rfl ?_
          refine nx_iload_n C0 2 dX4_isQuarrel_27 rfl ?_
          obtain ⟨r7, c6, h⟩ := nbind h
          refine nx_cVi (ci := 4) (n := 2) (As := [.int a5, .int a2]) (st := [.int r5]) C0 (mX4_worthTo l D B hB hk_0 a5 a2 σ c6) gX4_isQuarrel_X4_worthTo rfl rfl rfl ndX4_worthTo ⟨Nat.le_of_ble_eq_true rfl, Nat.le_of_ble_eq_true rfl⟩ (by have := nT_lt hk_0; omega) (nT_e hk_0 _) rfl rfl rfl (Nat.le_of_ble_eq_true rfl) rfl dX4_isQuarrel_28 ?_
          refine nx_isub C0 dX4_isQuarrel_31 ?_
          obtain ⟨v8, ev8, h⟩ := nlet h
          refine nx_istore (i := 6) (y := v8) (lv' := [(6, .int v8), (0, .ref (na B k_0)), (1, .int a1), (2, .int a2), (3, .int a3), (4, .int a4), (5, .int a5)]) C0 dX4_isQuarrel_32 (by decide) ev8 rfl ?_
          refine nx_iload_n C0 4 dX4_isQuarrel_34 rfl ?_
          refine nx_if_ne (tgt := 43) C0 dX4_isQuarrel_35 (by decide) (fun q => ?_) (fun q => ?_)
          · have h := niff q h
            refine nx_lv (lv' := [(0, .ref (na B k_0)), (1, .int a1), (2, .int a2), (4, .int a4), (5, .int a5), (6, .int v8)]) [1, 2, 3, 5, 6, 0] rfl ?_
            exact hfX4_isQuarrel_b43 (fX4_isQuarrel_b8 n) ih k_0 hk_0 a1 a2 a4 a5 v8 h
          · have h := nift q h
            refine nx_iload C0 0 dX4_isQuarrel_38 rfl ?_
            refine nx_if_le (tgt := 47) C0 dX4_isQuarrel_40 (by decide) (fun q => ?_) (fun q => ?_)
            · have h := nift q h
              refine nx_iconst (v := 0) C0 dX4_isQuarrel_47 (by decide) ?_
              refine nx_lv (lv' := [(0, .ref (na B k_0)), (1, .int a1), (2, .int a2), (4, .int a4), (5, .int a5), (6, .int v8)]) [1, 2, 3, 5, 6, 0] rfl ?_
              exact hfX4_isQuarrel_b48 (fX4_isQuarrel_b8 n) ih k_0 hk_0 a1 a2 a4 a5 v8 (0 : Int32) h
            · have h := niff q h
              refine nx_lv (lv' := [(0, .ref (na B k_0)), (1, .int a1), (2, .int a2), (4, .int a4), (5, .int a5), (6, .int v8)]) [1, 2, 3, 5, 6, 0] rfl ?_
              exact hfX4_isQuarrel_b43 (fX4_isQuarrel_b8 n) ih k_0 hk_0 a1 a2 a4 a5 v8 h
  refine nx_lv (lv' := [(0, .ref (na B k0)), (1, .int x1), (2, .int x2)]) [0, 1, 2] rfl ?_
  rw [fX4_isQuarrel] at h
  refine nx_iconst (v := 0) C0 dX4_isQuarrel_0 (by decide) ?_
  refine nx_istore_n (i := 3) (y := (0 : Int32)) (lv' := [(3, .int (0 : Int32)), (0, .ref (na B k0)), (1, .int x1), (2, .int x2)]) C0 dX4_isQuarrel_1 rfl (by decide) rfl rfl ?_
  refine nx_iconst (v := 0) C0 dX4_isQuarrel_2 (by decide) ?_
  refine nx_istore (i := 4) (y := (0 : Int32)) (lv' := [(4, .int (0 : Int32)), (3, .int (0 : Int32)), (0, .ref (na B k0)), (1, .int x1), (2, .int x2)]) C0 dX4_isQuarrel_3 (by decide) rfl rfl ?_
  refine nx_iconst (v := 0) C0 dX4_isQuarrel_5 (by decide) ?_
  refine nx_istore (i := 5) (y := (0 : Int32)) (lv' := [(5, .int (0 : Int32)), (4, .int (0 : Int32)), (3, .int (0 : Int32)), (0, .ref (na B k0)), (1, .int x1), (2, .int x2)]) C0 dX4_isQuarrel_6 (by decide) rfl rfl ?_
  refine nx_lv (lv' := [(0, .ref (na B k0)), (1, .int x1), (2, .int x2), (3, .int (0 : Int32)), (4, .int (0 : Int32)), (5, .int (0 : Int32))]) [3, 4, 5, 2, 1, 0] rfl ?_
  exact hfX4_isQuarrel_b8 4096 k0 hk0 x1 x2 (0 : Int32) (0 : Int32) (0 : Int32) h
def rmX4_allQuarrels : Room := { frames := 3, cells := 0, slots := 0, locals := 76 }
theorem ndX4_allQuarrels : yX4_allQuarrels.cls = RX4 ∧ yX4_allQuarrels.cls ≠ "java/lang/invoke/MethodHandle" ∧ yX4_allQuarrels.cls ≠ "java/lang/invoke/VarHandle" ∧ (parseMethodDescriptor yX4_allQuarrels.desc).map (fun d => d.parameters.length) = some 0 := by decide +kernel
set_option maxRecDepth 100000 in
set_option maxHeartbeats 4000000 in
theorem mX4_allQuarrels (l : Launch) (D : va_G) (B : nBT) (hB : nInj B) {k0 : Nat} (hk0 : nT k0) (σ : nS) {r : Int32}  (h : fX4_allQuarrels k0 σ = some r) : nMi l D B yX4_allQuarrels wsX4_allQuarrels rmX4_allQuarrels [.ref (na B k0)] σ r σ := by
  refine nmet (cc := cX4_allQuarrels) (maxL := 4) (ret := (some .int)) (own := RX4) (av := [.ref (na B k0)]) (nQi D B r σ) hB (by decide) rfl rfl (Nat.le_of_ble_eq_true rfl) (fun p e s m args below meth c C0 hr => ?_)
  have hh0 : ∀ w ∈ wsX40, w ∈ wsX4_allQuarrels := by decide +kernel
  have hh1 := C0.2.2.2.2.1 (Cond.fieldLink RX4 42 "NotInTheCoin$Town" "goods" "I") (by decide +kernel)
  have hfX4_allQuarrels_b16 : ∀ (s4 : Nat → Int32 → Int32 → nS → Option Int32) (hs4 : ∀ (k_0 : Nat) (hk_0 : nT k_0) (a1 : Int32) (a2 : Int32), s4 k_0 a1 a2 σ = some r → nJ p l e rmX4_allQuarrels s m args below meth c 0 0 (MQ below (nQi D B r σ s.heap.size) args s 0 0 (nA B s.heap.size)) D B 4 4 [(0, .ref (na B k_0)), (1, .int a1), (2, .int a2)] [] σ) (n : Nat) (k_0 : Nat) (hk_0 : nT k_0) (a1 : Int32) (a2 : Int32) (a3 : Int32) (h : fX4_allQuarrels_b16 s4 n k_0 a1 a2 a3 σ = some r), nJ p l e rmX4_allQuarrels s m args below meth c 0 0 (MQ below (nQi D B r σ s.heap.size) args s 0 0 (nA B s.heap.size)) D B 4 16 [(0, .ref (na B k_0)), (1, .int a1), (2, .int a2), (3, .int a3)] [] σ := by
    intro s4 hs4 n
    induction n with
    | zero => intro k_0 hk_0 a1 a2 a3 h; cases h
    | succ n ih =>
        intro k_0 hk_0 a1 a2 a3 h
        rw [fX4_allQuarrels_b16] at h
        refine nx_iload_n C0 3 dX4_allQuarrels_16 rfl ?_
        refine nx_aload_n C0 0 dX4_allQuarrels_17 rfl ?_
        refine nx_gX4_goods C0 hk_0 hh0 hh1 dX4_allQuarrels_18 ?_
        refine nx_icmp_ge (tgt := 42) C0 dX4_allQuarrels_21 (by decide) (fun q => ?_) (fun q => ?_)
        · have h := nift q h
          obtain ⟨v1, ev1, h⟩ := nlet h
          refine nx_iinc (v := v1) (lv' := [(2, .int v1), (0, .ref (na B k_0)), (1, .int a1), (3, .int a3)]) C0 2 dX4_allQuarrels_42 rfl ev1 (by decide) rfl ?_
          refine nx_goto (tgt := 4) C0 dX4_allQuarrels_45 (by decide) ?_
          refine nx_lv (lv' := [(0, .ref (na B k_0)), (1, .int a1), (2, .int v1)]) [1, 2, 0] rfl ?_
          exact hs4 k_0 hk_0 a1 v1 h
        · have h := niff q h
          refine nx_aload_n C0 0 dX4_allQuarrels_24 rfl ?_
          refine nx_iload_n C0 2 dX4_allQuarrels_25 rfl ?_
          refine nx_iload_n C0 3 dX4_allQuarrels_26 rfl ?_
          obtain ⟨r3, c2, h⟩ := nbind h
          refine nx_cVi (ci := 4) (n := 2) (As := [.int a2, .int a3]) (st := []) C0 (mX4_isQuarrel l D B hB hk_0 a2 a3 σ c2) gX4_allQuarrels_X4_isQuarrel rfl rfl rfl ndX4_isQuarrel ⟨Nat.le_of_ble_eq_true rfl, Nat.le_of_ble_eq_true rfl⟩ (by have := nT_lt hk_0; omega) (nT_e hk_0 _) rfl rfl rfl (Nat.le_of_ble_eq_true rfl) rfl dX4_allQuarrels_27 ?_
          refine nx_if_eq (tgt := 36) C0 dX4_allQuarrels_30 (by decide) (fun q => ?_) (fun q => ?_)
          · have h := nift q h
            obtain ⟨v4, ev4, h⟩ := nlet h
            refine nx_iinc (v := v4) (lv' := [(3, .int v4), (0, .ref (na B k_0)), (1, .int a1), (2, .int a2)]) C0 3 dX4_allQuarrels_36 rfl ev4 (by decide) rfl ?_
            refine nx_goto (tgt := 16) C0 dX4_allQuarrels_39 (by decide) ?_
            refine nx_lv (lv' := [(0, .ref (na B k_0)), (1, .int a1), (2, .int a2), (3, .int v4)]) [1, 2, 3, 0] rfl ?_
            exact ih k_0 hk_0 a1 a2 v4 h
          · have h := niff q h
            obtain ⟨v5, ev5, h⟩ := nlet h
            refine nx_iinc (v := v5) (lv' := [(1, .int v5), (0, .ref (na B k_0)), (2, .int a2), (3, .int a3)]) C0 1 dX4_allQuarrels_33 rfl ev5 (by decide) rfl ?_
            obtain ⟨v6, ev6, h⟩ := nlet h
            refine nx_iinc (v := v6) (lv' := [(3, .int v6), (1, .int v5), (0, .ref (na B k_0)), (2, .int a2)]) C0 3 dX4_allQuarrels_36 rfl ev6 (by decide) rfl ?_
            refine nx_goto (tgt := 16) C0 dX4_allQuarrels_39 (by decide) ?_
            refine nx_lv (lv' := [(0, .ref (na B k_0)), (1, .int v5), (2, .int a2), (3, .int v6)]) [2, 1, 3, 0] rfl ?_
            exact ih k_0 hk_0 v5 a2 v6 h
  have hfX4_allQuarrels_b4 : ∀  (n : Nat) (k_0 : Nat) (hk_0 : nT k_0) (a1 : Int32) (a2 : Int32) (h : fX4_allQuarrels_b4  n k_0 a1 a2 σ = some r), nJ p l e rmX4_allQuarrels s m args below meth c 0 0 (MQ below (nQi D B r σ s.heap.size) args s 0 0 (nA B s.heap.size)) D B 4 4 [(0, .ref (na B k_0)), (1, .int a1), (2, .int a2)] [] σ := by
    intro  n
    induction n with
    | zero => intro k_0 hk_0 a1 a2 h; cases h
    | succ n ih =>
        intro k_0 hk_0 a1 a2 h
        rw [fX4_allQuarrels_b4] at h
        refine nx_iload_n C0 2 dX4_allQuarrels_4 rfl ?_
        refine nx_aload_n C0 0 dX4_allQuarrels_5 rfl ?_
        refine nx_gX4_goods C0 hk_0 hh0 hh1 dX4_allQuarrels_6 ?_
        refine nx_icmp_ge (tgt := 48) C0 dX4_allQuarrels_9 (by decide) (fun q => ?_) (fun q => ?_)
        · have h := nift q h
          refine nx_iload_n C0 1 dX4_allQuarrels_48 rfl ?_
          exact nr_i C0 hr dX4_allQuarrels_49 h
        · have h := niff q h
          refine nx_iload_n C0 2 dX4_allQuarrels_12 rfl ?_
          refine nx_iconst (v := 1) C0 dX4_allQuarrels_13 (by decide) ?_
          refine nx_iadd C0 dX4_allQuarrels_14 ?_
          obtain ⟨v7, ev7, h⟩ := nlet h
          refine nx_istore_n (i := 3) (y := v7) (lv' := [(3, .int v7), (0, .ref (na B k_0)), (1, .int a1), (2, .int a2)]) C0 dX4_allQuarrels_15 rfl (by decide) ev7 rfl ?_
          refine nx_lv (lv' := [(0, .ref (na B k_0)), (1, .int a1), (2, .int a2), (3, .int v7)]) [1, 2, 3, 0] rfl ?_
          exact hfX4_allQuarrels_b16 (fX4_allQuarrels_b4 n) ih 4096 k_0 hk_0 a1 a2 v7 h
  refine nx_lv (lv' := [(0, .ref (na B k0))]) [0] rfl ?_
  rw [fX4_allQuarrels] at h
  refine nx_iconst (v := 0) C0 dX4_allQuarrels_0 (by decide) ?_
  refine nx_istore_n (i := 1) (y := (0 : Int32)) (lv' := [(1, .int (0 : Int32)), (0, .ref (na B k0))]) C0 dX4_allQuarrels_1 rfl (by decide) rfl rfl ?_
  refine nx_iconst (v := 0) C0 dX4_allQuarrels_2 (by decide) ?_
  refine nx_istore_n (i := 2) (y := (0 : Int32)) (lv' := [(2, .int (0 : Int32)), (1, .int (0 : Int32)), (0, .ref (na B k0))]) C0 dX4_allQuarrels_3 rfl (by decide) rfl rfl ?_
  refine nx_lv (lv' := [(0, .ref (na B k0)), (1, .int (0 : Int32)), (2, .int (0 : Int32))]) [2, 1, 0] rfl ?_
  exact hfX4_allQuarrels_b4 4096 k0 hk0 (0 : Int32) (0 : Int32) h
def rmX5_isShelf : Room := { frames := 0, cells := 0, slots := 0, locals := 0 }
theorem ndX5_isShelf : yX5_isShelf.cls ≠ "java/lang/invoke/MethodHandle" ∧ yX5_isShelf.cls ≠ "java/lang/invoke/VarHandle" ∧ (parseMethodDescriptor yX5_isShelf.desc).map (fun d => d.parameters.length) = some 1 := by decide +kernel
set_option maxRecDepth 100000 in
set_option maxHeartbeats 4000000 in
theorem mX5_isShelf (l : Launch) (D : va_G) (B : nBT) (hB : nInj B) (x0 : Int32) (σ : nS) {r : Int32}  (h : fX5_isShelf x0 σ = some r) : nMi l D B yX5_isShelf wsX5_isShelf rmX5_isShelf [.int x0] σ r σ := by
  refine nmet (cc := cX5_isShelf) (maxL := 1) (ret := (some .boolean)) (own := RX5) (av := [.int x0]) (nQi D B r σ) hB (by decide) rfl rfl (Nat.le_of_ble_eq_true rfl) (fun p e s m args below meth c C0 hr => ?_)
  refine nx_lv (lv' := [(0, .int x0)]) [0] rfl ?_
  rw [fX5_isShelf] at h
  refine nx_iload_n C0 0 dX5_isShelf_0 rfl ?_
  refine nx_if_lt (tgt := 14) C0 dX5_isShelf_1 (by decide) (fun q => ?_) (fun q => ?_)
  · have h := nift q h
    refine nx_iconst (v := 0) C0 dX5_isShelf_14 (by decide) ?_
    exact nr_z C0 hr (Or.inl rfl) dX5_isShelf_15 h
  · have h := niff q h
    refine nx_iload_n C0 0 dX5_isShelf_4 rfl ?_
    refine nx_bipush (v := 8) C0 dX5_isShelf_5 (by decide) ?_
    refine nx_icmp_ge (tgt := 14) C0 dX5_isShelf_7 (by decide) (fun q => ?_) (fun q => ?_)
    · have h := nift q h
      refine nx_iconst (v := 0) C0 dX5_isShelf_14 (by decide) ?_
      exact nr_z C0 hr (Or.inl rfl) dX5_isShelf_15 h
    · have h := niff q h
      refine nx_iconst (v := 1) C0 dX5_isShelf_10 (by decide) ?_
      refine nx_goto (tgt := 15) C0 dX5_isShelf_11 (by decide) ?_
      exact nr_z C0 hr (Or.inr rfl) dX5_isShelf_15 h
def rmX5_digitsBehind : Room := { frames := 0, cells := 0, slots := 0, locals := 0 }
theorem ndX5_digitsBehind : yX5_digitsBehind.cls ≠ "java/lang/invoke/MethodHandle" ∧ yX5_digitsBehind.cls ≠ "java/lang/invoke/VarHandle" ∧ (parseMethodDescriptor yX5_digitsBehind.desc).map (fun d => d.parameters.length) = some 1 := by decide +kernel
set_option maxRecDepth 100000 in
set_option maxHeartbeats 4000000 in
theorem mX5_digitsBehind (l : Launch) (D : va_G) (B : nBT) (hB : nInj B) (x0 : Int32) (σ : nS) {r : Int32}  (h : fX5_digitsBehind x0 σ = some r) : nMi l D B yX5_digitsBehind wsX5_digitsBehind rmX5_digitsBehind [.int x0] σ r σ := by
  refine nmet (cc := cX5_digitsBehind) (maxL := 1) (ret := (some .int)) (own := RX5) (av := [.int x0]) (nQi D B r σ) hB (by decide) rfl rfl (Nat.le_of_ble_eq_true rfl) (fun p e s m args below meth c C0 hr => ?_)
  refine nx_lv (lv' := [(0, .int x0)]) [0] rfl ?_
  rw [fX5_digitsBehind] at h
  refine nx_iload_n C0 0 dX5_digitsBehind_0 rfl ?_
  by_cases q1 : x0 = 103
  · have h := nift q1 h
    refine nx_look (tgt := 56) (off := 55) C0 dX5_digitsBehind_1 rfl (by rw [q1]; rfl) (by decide) ?_
    refine nx_iconst (v := 3) C0 dX5_digitsBehind_56 (by decide) ?_
    exact nr_i C0 hr dX5_digitsBehind_57 h
  have h := niff q1 h
  by_cases q2 : x0 = 108
  · have h := nift q2 h
    refine nx_look (tgt := 54) (off := 53) C0 dX5_digitsBehind_1 rfl (by rw [q2]; rfl) (by decide) ?_
    refine nx_iconst (v := 2) C0 dX5_digitsBehind_54 (by decide) ?_
    exact nr_i C0 hr dX5_digitsBehind_55 h
  have h := niff q2 h
  by_cases q3 : x0 = 112
  · have h := nift q3 h
    refine nx_look (tgt := 52) (off := 51) C0 dX5_digitsBehind_1 rfl (by rw [q3]; rfl) (by decide) ?_
    refine nx_iconst (v := 1) C0 dX5_digitsBehind_52 (by decide) ?_
    exact nr_i C0 hr dX5_digitsBehind_53 h
  have h := niff q3 h
  by_cases q4 : x0 = 115
  · have h := nift q4 h
    refine nx_look (tgt := 54) (off := 53) C0 dX5_digitsBehind_1 rfl (by rw [q4]; rfl) (by decide) ?_
    refine nx_iconst (v := 2) C0 dX5_digitsBehind_54 (by decide) ?_
    exact nr_i C0 hr dX5_digitsBehind_55 h
  have h := niff q4 h
  by_cases q5 : x0 = 119
  · have h := nift q5 h
    refine nx_look (tgt := 54) (off := 53) C0 dX5_digitsBehind_1 rfl (by rw [q5]; rfl) (by decide) ?_
    refine nx_iconst (v := 2) C0 dX5_digitsBehind_54 (by decide) ?_
    exact nr_i C0 hr dX5_digitsBehind_55 h
  have h := niff q5 h
  refine nx_look (tgt := 58) (off := 57) C0 dX5_digitsBehind_1 rfl ((lv_osw (a := 103) q1 (by decide)).trans ((lv_osw (a := 108) q2 (by decide)).trans ((lv_osw (a := 112) q3 (by decide)).trans ((lv_osw (a := 115) q4 (by decide)).trans ((lv_osw (a := 119) q5 (by decide)).trans (rfl)))))) (by decide) ?_
  refine nx_iconst (v := 0) C0 dX5_digitsBehind_58 (by decide) ?_
  exact nr_i C0 hr dX5_digitsBehind_59 h
def rmX5_isDigit : Room := { frames := 0, cells := 0, slots := 0, locals := 0 }
theorem ndX5_isDigit : yX5_isDigit.cls ≠ "java/lang/invoke/MethodHandle" ∧ yX5_isDigit.cls ≠ "java/lang/invoke/VarHandle" ∧ (parseMethodDescriptor yX5_isDigit.desc).map (fun d => d.parameters.length) = some 1 := by decide +kernel
set_option maxRecDepth 100000 in
set_option maxHeartbeats 4000000 in
theorem mX5_isDigit (l : Launch) (D : va_G) (B : nBT) (hB : nInj B) (x0 : Int32) (σ : nS) {r : Int32}  (h : fX5_isDigit x0 σ = some r) : nMi l D B yX5_isDigit wsX5_isDigit rmX5_isDigit [.int x0] σ r σ := by
  refine nmet (cc := cX5_isDigit) (maxL := 1) (ret := (some .boolean)) (own := RX5) (av := [.int x0]) (nQi D B r σ) hB (by decide) rfl rfl (Nat.le_of_ble_eq_true rfl) (fun p e s m args below meth c C0 hr => ?_)
  refine nx_lv (lv' := [(0, .int x0)]) [0] rfl ?_
  rw [fX5_isDigit] at h
  refine nx_iload_n C0 0 dX5_isDigit_0 rfl ?_
  refine nx_bipush (v := 48) C0 dX5_isDigit_1 (by decide) ?_
  refine nx_icmp_lt (tgt := 16) C0 dX5_isDigit_3 (by decide) (fun q => ?_) (fun q => ?_)
  · have h := nift q h
    refine nx_iconst (v := 0) C0 dX5_isDigit_16 (by decide) ?_
    exact nr_z C0 hr (Or.inl rfl) dX5_isDigit_17 h
  · have h := niff q h
    refine nx_iload_n C0 0 dX5_isDigit_6 rfl ?_
    refine nx_bipush (v := 57) C0 dX5_isDigit_7 (by decide) ?_
    refine nx_icmp_gt (tgt := 16) C0 dX5_isDigit_9 (by decide) (fun q => ?_) (fun q => ?_)
    · have h := nift q h
      refine nx_iconst (v := 0) C0 dX5_isDigit_16 (by decide) ?_
      exact nr_z C0 hr (Or.inl rfl) dX5_isDigit_17 h
    · have h := niff q h
      refine nx_iconst (v := 1) C0 dX5_isDigit_12 (by decide) ?_
      refine nx_goto (tgt := 17) C0 dX5_isDigit_13 (by decide) ?_
      exact nr_z C0 hr (Or.inr rfl) dX5_isDigit_17 h
def rmX5_badPlace : Room := { frames := 1, cells := 0, slots := 0, locals := 20 }
theorem ndX5_badPlace : yX5_badPlace.cls ≠ "java/lang/invoke/MethodHandle" ∧ yX5_badPlace.cls ≠ "java/lang/invoke/VarHandle" ∧ (parseMethodDescriptor yX5_badPlace.desc).map (fun d => d.parameters.length) = some 1 := by decide +kernel
set_option maxRecDepth 100000 in
set_option maxHeartbeats 4000000 in
theorem mX5_badPlace (l : Launch) (D : va_G) (B : nBT) (hB : nInj B) {k0 : Nat} (hk0 : nSh k0) (σ : nS) {r : Int32}  (h : fX5_badPlace k0 σ = some r) : nMi l D B yX5_badPlace wsX5_badPlace rmX5_badPlace [.ref (na B k0)] σ r σ := by
  refine nmet (cc := cX5_badPlace) (maxL := 6) (ret := (some .int)) (own := RX5) (av := [.ref (na B k0)]) (nQi D B r σ) hB (by decide) rfl rfl (Nat.le_of_ble_eq_true rfl) (fun p e s m args below meth c C0 hr => ?_)
  have hh0 : ∀ w ∈ wsX10, w ∈ wsX5_badPlace := by decide +kernel
  have hh1 := C0.2.2.2.2.1 (Cond.fieldLink RX5 70 "NotInTheCoin$Shelf" "size" "I") (by decide +kernel)
  have hh2 := C0.2.2.2.2.1 (Cond.fieldLink RX5 77 "NotInTheCoin$Shelf" "cells" "[I") (by decide +kernel)
  have hfX5_badPlace_b102 : ∀ (s11 : Nat → Int32 → nS → Option Int32) (hs11 : ∀ (k_0 : Nat) (hk_0 : nSh k_0) (a1 : Int32), s11 k_0 a1 σ = some r → nJ p l e rmX5_badPlace s m args below meth c 0 0 (MQ below (nQi D B r σ s.heap.size) args s 0 0 (nA B s.heap.size)) D B 6 11 [(0, .ref (na B k_0)), (1, .int a1)] [] σ) (s46 : Nat → Int32 → Int32 → nS → Option Int32) (hs46 : ∀ (k_0 : Nat) (hk_0 : nSh k_0) (a3 : Int32) (a4 : Int32), s46 k_0 a3 a4 σ = some r → nJ p l e rmX5_badPlace s m args below meth c 0 0 (MQ below (nQi D B r σ s.heap.size) args s 0 0 (nA B s.heap.size)) D B 6 46 [(0, .ref (na B k_0)), (3, .int a3), (4, .int a4)] [] σ) (k_0 : Nat) (hk_0 : nSh k_0) (a3 : Int32) (a4 : Int32) (z0 : Int32) (h : fX5_badPlace_b102 s11 s46 k_0 a3 a4 z0 σ = some r), nJ p l e rmX5_badPlace s m args below meth c 0 0 (MQ below (nQi D B r σ s.heap.size) args s 0 0 (nA B s.heap.size)) D B 6 102 [(0, .ref (na B k_0)), (3, .int a3), (4, .int a4)] [.int z0] σ := by
    intro s11 hs11 s46 hs46 k_0 hk_0 a3 a4 z0 h
    rw [fX5_badPlace_b102] at h
    refine nx_istore (i := 5) (y := z0) (lv' := [(5, .int z0), (0, .ref (na B k_0)), (3, .int a3), (4, .int a4)]) C0 dX5_badPlace_102 (by decide) rfl rfl ?_
    refine nx_iload C0 0 dX5_badPlace_104 rfl ?_
    refine nx_if_ne (tgt := 112) C0 dX5_badPlace_106 (by decide) (fun q => ?_) (fun q => ?_)
    · have h := niff q h
      obtain ⟨v1, ev1, h⟩ := nlet h
      refine nx_iinc (v := v1) (lv' := [(4, .int v1), (5, .int z0), (0, .ref (na B k_0)), (3, .int a3)]) C0 3 dX5_badPlace_112 rfl ev1 (by decide) rfl ?_
      refine nx_goto (tgt := 46) C0 dX5_badPlace_115 (by decide) ?_
      refine nx_lv (lv' := [(0, .ref (na B k_0)), (3, .int a3), (4, .int v1)]) [2, 3, 0] rfl ?_
      exact hs46 k_0 hk_0 a3 v1 h
    · have h := nift q h
      refine nx_iload C0 3 dX5_badPlace_109 rfl ?_
      exact nr_i C0 hr dX5_badPlace_111 h
  have hfX5_badPlace_b46 : ∀ (s11 : Nat → Int32 → nS → Option Int32) (hs11 : ∀ (k_0 : Nat) (hk_0 : nSh k_0) (a1 : Int32), s11 k_0 a1 σ = some r → nJ p l e rmX5_badPlace s m args below meth c 0 0 (MQ below (nQi D B r σ s.heap.size) args s 0 0 (nA B s.heap.size)) D B 6 11 [(0, .ref (na B k_0)), (1, .int a1)] [] σ) (n : Nat) (k_0 : Nat) (hk_0 : nSh k_0) (a3 : Int32) (a4 : Int32) (h : fX5_badPlace_b46 s11 n k_0 a3 a4 σ = some r), nJ p l e rmX5_badPlace s m args below meth c 0 0 (MQ below (nQi D B r σ s.heap.size) args s 0 0 (nA B s.heap.size)) D B 6 46 [(0, .ref (na B k_0)), (3, .int a3), (4, .int a4)] [] σ := by
    intro s11 hs11 n
    induction n with
    | zero => intro k_0 hk_0 a3 a4 h; cases h
    | succ n ih =>
        intro k_0 hk_0 a3 a4 h
        rw [fX5_badPlace_b46] at h
        refine nx_iload C0 2 dX5_badPlace_46 rfl ?_
        refine nx_iload_n C0 1 dX5_badPlace_48 rfl ?_
        refine nx_icmp_gt (tgt := 118) C0 dX5_badPlace_49 (by decide) (fun q => ?_) (fun q => ?_)
        · have h := nift q h
          refine nx_iload_n C0 1 dX5_badPlace_118 rfl ?_
          refine nx_iconst (v := 1) C0 dX5_badPlace_119 (by decide) ?_
          refine nx_iadd C0 dX5_badPlace_120 ?_
          obtain ⟨v2, ev2, h⟩ := nlet h
          refine nx_istore_n (i := 1) (y := v2) (lv' := [(1, .int v2), (0, .ref (na B k_0)), (3, .int a3), (4, .int a4)]) C0 dX5_badPlace_121 rfl (by decide) ev2 rfl ?_
          refine nx_goto (tgt := 11) C0 dX5_badPlace_122 (by decide) ?_
          refine nx_lv (lv' := [(0, .ref (na B k_0)), (1, .int v2)]) [1, 0] rfl ?_
          exact hs11 k_0 hk_0 v2 h
        · have h := niff q h
          refine nx_iload C0 2 dX5_badPlace_52 rfl ?_
          refine nx_aload_n C0 0 dX5_badPlace_54 rfl ?_
          refine nx_gX1_size C0 hk_0 hh0 hh1 dX5_badPlace_55 ?_
          refine nx_icmp_lt (tgt := 66) C0 dX5_badPlace_58 (by decide) (fun q => ?_) (fun q => ?_)
          · have h := nift q h
            refine nx_iload C0 2 dX5_badPlace_66 rfl ?_
            refine nx_iload_n C0 1 dX5_badPlace_68 rfl ?_
            refine nx_icmp_ge (tgt := 85) C0 dX5_badPlace_69 (by decide) (fun q => ?_) (fun q => ?_)
            · have h := nift q h
              refine nx_aload_n C0 0 dX5_badPlace_85 rfl ?_
              refine nx_gX1_cells C0 hk_0 hh0 hh2 dX5_badPlace_86 ?_
              refine nx_iload C0 2 dX5_badPlace_89 rfl ?_
              obtain ⟨g3, h⟩ := nguard h
              refine nx_iald C0 (nSh_c hk_0) g3 dX5_badPlace_91 ?_
              refine nx_bipush (v := 59) C0 dX5_badPlace_92 (by decide) ?_
              refine nx_icmp_ne (tgt := 101) C0 dX5_badPlace_94 (by decide) (fun q => ?_) (fun q => ?_)
              · have h := niff q h
                refine nx_iconst (v := 0) C0 dX5_badPlace_101 (by decide) ?_
                exact hfX5_badPlace_b102 s11 hs11 (fX5_badPlace_b46 s11 n) ih k_0 hk_0 a3 a4 (0 : Int32) h
              · have h := nift q h
                refine nx_iconst (v := 1) C0 dX5_badPlace_97 (by decide) ?_
                refine nx_goto (tgt := 102) C0 dX5_badPlace_98 (by decide) ?_
                exact hfX5_badPlace_b102 s11 hs11 (fX5_badPlace_b46 s11 n) ih k_0 hk_0 a3 a4 (1 : Int32) h
            · have h := niff q h
              refine nx_aload_n C0 0 dX5_badPlace_72 rfl ?_
              refine nx_gX1_cells C0 hk_0 hh0 hh2 dX5_badPlace_73 ?_
              refine nx_iload C0 2 dX5_badPlace_76 rfl ?_
              obtain ⟨g4, h⟩ := nguard h
              refine nx_iald C0 (nSh_c hk_0) g4 dX5_badPlace_78 ?_
              obtain ⟨r6, c5, h⟩ := nbind h
              refine nx_cSi (n := 1) (As := [.int (σ (k_0 + 1) (a4).toNatClampNeg)]) (st := []) C0 (mX5_isDigit l D B hB (σ (k_0 + 1) (a4).toNatClampNeg) σ c5) gX5_badPlace_X5_isDigit rfl rfl rfl ndX5_isDigit ⟨Nat.le_of_ble_eq_true rfl, Nat.le_of_ble_eq_true rfl⟩ rfl (Nat.le_of_ble_eq_true rfl) rfl dX5_badPlace_79 ?_
              refine nx_goto (tgt := 102) C0 dX5_badPlace_82 (by decide) ?_
              exact hfX5_badPlace_b102 s11 hs11 (fX5_badPlace_b46 s11 n) ih k_0 hk_0 a3 a4 r6 h
          · have h := niff q h
            refine nx_aload_n C0 0 dX5_badPlace_61 rfl ?_
            refine nx_gX1_size C0 hk_0 hh0 hh1 dX5_badPlace_62 ?_
            exact nr_i C0 hr dX5_badPlace_65 h
  have hfX5_badPlace_b11 : ∀  (n : Nat) (k_0 : Nat) (hk_0 : nSh k_0) (a1 : Int32) (h : fX5_badPlace_b11  n k_0 a1 σ = some r), nJ p l e rmX5_badPlace s m args below meth c 0 0 (MQ below (nQi D B r σ s.heap.size) args s 0 0 (nA B s.heap.size)) D B 6 11 [(0, .ref (na B k_0)), (1, .int a1)] [] σ := by
    intro  n
    induction n with
    | zero => intro k_0 hk_0 a1 h; cases h
    | succ n ih =>
        intro k_0 hk_0 a1 h
        rw [fX5_badPlace_b11] at h
        refine nx_iload_n C0 1 dX5_badPlace_11 rfl ?_
        refine nx_aload_n C0 0 dX5_badPlace_12 rfl ?_
        refine nx_gX1_size C0 hk_0 hh0 hh1 dX5_badPlace_13 ?_
        refine nx_icmp_ge (tgt := 125) C0 dX5_badPlace_16 (by decide) (fun q => ?_) (fun q => ?_)
        · have h := nift q h
          refine nx_iconst (v := -1) C0 dX5_badPlace_125 (by decide) ?_
          exact nr_i C0 hr dX5_badPlace_126 h
        · have h := niff q h
          refine nx_aload_n C0 0 dX5_badPlace_19 rfl ?_
          refine nx_gX1_cells C0 hk_0 hh0 hh2 dX5_badPlace_20 ?_
          refine nx_iload_n C0 1 dX5_badPlace_23 rfl ?_
          obtain ⟨g7, h⟩ := nguard h
          refine nx_iald C0 (nSh_c hk_0) g7 dX5_badPlace_24 ?_
          obtain ⟨r9, c8, h⟩ := nbind h
          refine nx_cSi (n := 1) (As := [.int (σ (k_0 + 1) (a1).toNatClampNeg)]) (st := []) C0 (mX5_digitsBehind l D B hB (σ (k_0 + 1) (a1).toNatClampNeg) σ c8) gX5_badPlace_X5_digitsBehind rfl rfl rfl ndX5_digitsBehind ⟨Nat.le_of_ble_eq_true rfl, Nat.le_of_ble_eq_true rfl⟩ rfl (Nat.le_of_ble_eq_true rfl) rfl dX5_badPlace_25 ?_
          refine nx_istore_n (i := 2) (y := r9) (lv' := [(2, .int r9), (0, .ref (na B k_0)), (1, .int a1)]) C0 dX5_badPlace_28 rfl (by decide) rfl rfl ?_
          refine nx_iload_n C0 0 dX5_badPlace_29 rfl ?_
          refine nx_if_ne (tgt := 35) C0 dX5_badPlace_30 (by decide) (fun q => ?_) (fun q => ?_)
          · have h := niff q h
            refine nx_iload_n C0 2 dX5_badPlace_35 rfl ?_
            refine nx_iload_n C0 0 dX5_badPlace_36 rfl ?_
            refine nx_iadd C0 dX5_badPlace_37 ?_
            refine nx_iconst (v := 1) C0 dX5_badPlace_38 (by decide) ?_
            refine nx_iadd C0 dX5_badPlace_39 ?_
            obtain ⟨v10, ev10, h⟩ := nlet h
            refine nx_istore_n (i := 3) (y := v10) (lv' := [(3, .int v10), (2, .int r9), (0, .ref (na B k_0)), (1, .int a1)]) C0 dX5_badPlace_40 rfl (by decide) ev10 rfl ?_
            refine nx_iload_n C0 3 dX5_badPlace_41 rfl ?_
            refine nx_iconst (v := 1) C0 dX5_badPlace_42 (by decide) ?_
            refine nx_iadd C0 dX5_badPlace_43 ?_
            obtain ⟨v11, ev11, h⟩ := nlet h
            refine nx_istore (i := 4) (y := v11) (lv' := [(4, .int v11), (3, .int v10), (2, .int r9), (0, .ref (na B k_0)), (1, .int a1)]) C0 dX5_badPlace_44 (by decide) ev11 rfl ?_
            refine nx_lv (lv' := [(0, .ref (na B k_0)), (3, .int v10), (4, .int v11)]) [3, 1, 0] rfl ?_
            exact hfX5_badPlace_b46 (fX5_badPlace_b11 n) ih 4096 k_0 hk_0 v10 v11 h
          · have h := nift q h
            refine nx_iload_n C0 2 dX5_badPlace_33 rfl ?_
            exact nr_i C0 hr dX5_badPlace_34 h
  refine nx_lv (lv' := [(0, .ref (na B k0))]) [0] rfl ?_
  rw [fX5_badPlace] at h
  refine nx_aload_n C0 0 dX5_badPlace_0 rfl ?_
  refine nx_gX1_size C0 hk0 hh0 hh1 dX5_badPlace_1 ?_
  refine nx_if_ne (tgt := 9) C0 dX5_badPlace_4 (by decide) (fun q => ?_) (fun q => ?_)
  · have h := niff q h
    refine nx_iconst (v := 0) C0 dX5_badPlace_9 (by decide) ?_
    refine nx_istore_n (i := 1) (y := (0 : Int32)) (lv' := [(1, .int (0 : Int32)), (0, .ref (na B k0))]) C0 dX5_badPlace_10 rfl (by decide) rfl rfl ?_
    refine nx_lv (lv' := [(0, .ref (na B k0)), (1, .int (0 : Int32))]) [1, 0] rfl ?_
    exact hfX5_badPlace_b11 4096 k0 hk0 (0 : Int32) h
  · have h := nift q h
    refine nx_iconst (v := 0) C0 dX5_badPlace_7 (by decide) ?_
    exact nr_i C0 hr dX5_badPlace_8 h
def rmX5_perform : Room := { frames := 5, cells := 0, slots := 0, locals := 121 }
theorem ndX5_perform : yX5_perform.cls = RX5 ∧ yX5_perform.cls ≠ "java/lang/invoke/MethodHandle" ∧ yX5_perform.cls ≠ "java/lang/invoke/VarHandle" ∧ (parseMethodDescriptor yX5_perform.desc).map (fun d => d.parameters.length) = some 2 := by decide +kernel
set_option maxRecDepth 100000 in
set_option maxHeartbeats 4000000 in
theorem mX5_perform (l : Launch) (D : va_G) (B : nBT) (hB : nInj B) {k1 : Nat} (hk1 : nSh k1) (x2 : Int32) (σ : nS) {r : Int32} {σ1 : nS} (h : fX5_perform k1 x2 σ = some (r, σ1)) : nMi l D B yX5_perform wsX5_perform rmX5_perform [.ref (na B 0), .ref (na B k1), .int x2] σ r σ1 := by
  refine nmet (cc := cX5_perform) (maxL := 5) (ret := (some .int)) (own := RX5) (av := [.ref (na B 0), .ref (na B k1), .int x2]) (nQi D B r σ1) hB (by decide) rfl rfl (Nat.le_of_ble_eq_true rfl) (fun p e s m args below meth c C0 hr => ?_)
  have hh0 : ∀ w ∈ wsX10, w ∈ wsX5_perform := by decide +kernel
  have hh1 := C0.2.2.2.2.1 (Cond.fieldLink RX5 77 "NotInTheCoin$Shelf" "cells" "[I") (by decide +kernel)
  have hh2 : ∀ w ∈ wsX50, w ∈ wsX5_perform := by decide +kernel
  have hh3 := C0.2.2.2.2.1 (Cond.fieldLink RX5 16 "NotInTheCoin" "mind" "LNotInTheCoin$Town;") (by decide +kernel)
  refine nx_lv (lv' := [(0, .ref (na B 0)), (1, .ref (na B k1)), (2, .int x2)]) [0, 1, 2] rfl ?_
  rw [fX5_perform] at h
  refine nx_aload_n C0 1 dX5_perform_0 rfl ?_
  refine nx_iload_n C0 2 dX5_perform_1 rfl ?_
  refine nx_iconst (v := 1) C0 dX5_perform_2 (by decide) ?_
  refine nx_iadd C0 dX5_perform_3 ?_
  obtain ⟨r2, c1, h⟩ := nbind h
  refine nx_cVi (ci := 1) (n := 1) (As := [.int (x2 + (1 : Int32))]) (st := []) C0 (mX1_digit l D B hB hk1 (x2 + (1 : Int32)) σ c1) gX5_perform_X1_digit rfl rfl rfl ndX1_digit ⟨Nat.le_of_ble_eq_true rfl, Nat.le_of_ble_eq_true rfl⟩ (by have := nSh_lt hk1; omega) (nSh_e hk1 _) rfl rfl rfl (Nat.le_of_ble_eq_true rfl) rfl dX5_perform_4 ?_
  refine nx_istore_n (i := 3) (y := r2) (lv' := [(3, .int r2), (0, .ref (na B 0)), (1, .ref (na B k1)), (2, .int x2)]) C0 dX5_perform_7 rfl (by decide) rfl rfl ?_
  refine nx_aload_n C0 2 dX5_perform_8 rfl ?_
  refine nx_iload_n C0 3 dX5_perform_9 rfl ?_
  refine nx_iconst (v := 2) C0 dX5_perform_10 (by decide) ?_
  refine nx_iadd C0 dX5_perform_11 ?_
  obtain ⟨r4, c3, h⟩ := nbind h
  refine nx_cVi (ci := 1) (n := 1) (As := [.int (x2 + (2 : Int32))]) (st := []) C0 (mX1_digit l D B hB hk1 (x2 + (2 : Int32)) σ c3) gX5_perform_X1_digit rfl rfl rfl ndX1_digit ⟨Nat.le_of_ble_eq_true rfl, Nat.le_of_ble_eq_true rfl⟩ (by have := nSh_lt hk1; omega) (nSh_e hk1 _) rfl rfl rfl (Nat.le_of_ble_eq_true rfl) rfl dX5_perform_12 ?_
  refine nx_istore (i := 4) (y := r4) (lv' := [(4, .int r4), (3, .int r2), (0, .ref (na B 0)), (1, .ref (na B k1)), (2, .int x2)]) C0 dX5_perform_15 (by decide) rfl rfl ?_
  refine nx_aload_n C0 3 dX5_perform_17 rfl ?_
  refine nx_gX1_cells C0 hk1 hh0 hh1 dX5_perform_18 ?_
  refine nx_iload_n C0 4 dX5_perform_21 rfl ?_
  obtain ⟨g5, h⟩ := nguard h
  refine nx_iald C0 (nSh_c hk1) g5 dX5_perform_22 ?_
  by_cases q11 : (σ (k1 + 1) (x2).toNatClampNeg) = 103
  · have h := nift q11 h
    refine nx_look (tgt := 73) (off := 50) C0 dX5_perform_23 rfl (by rw [q11]; rfl) (by decide) ?_
    refine nx_aload_n C0 2 dX5_perform_73 rfl ?_
    refine nx_gX5_mind C0 hh2 hh3 dX5_perform_74 ?_
    refine nx_iload_n C0 1 dX5_perform_77 rfl ?_
    refine nx_iload C0 0 dX5_perform_78 rfl ?_
    refine nx_aload_n C0 3 dX5_perform_80 rfl ?_
    refine nx_iload_n C0 4 dX5_perform_81 rfl ?_
    refine nx_iconst (v := 3) C0 dX5_perform_82 (by decide) ?_
    refine nx_iadd C0 dX5_perform_83 ?_
    obtain ⟨r7, c6, h⟩ := nbind h
    refine nx_cVi (ci := 1) (n := 1) (As := [.int (x2 + (3 : Int32))]) (st := [.int r4, .int r2, .ref (na B 10)]) C0 (mX1_digit l D B hB hk1 (x2 + (3 : Int32)) σ c6) gX5_perform_X1_digit rfl rfl rfl ndX1_digit ⟨Nat.le_of_ble_eq_true rfl, Nat.le_of_ble_eq_true rfl⟩ (by have := nSh_lt hk1; omega) (nSh_e hk1 _) rfl rfl rfl (Nat.le_of_ble_eq_true rfl) rfl dX5_perform_84 ?_
    obtain ⟨r9, t10, c8, h⟩ := nbind2 h
    refine nx_cVi (ci := 4) (n := 3) (As := [.int r2, .int r4, .int r7]) (st := []) C0 (mX4_addGoods l D B hB nT10 r2 r4 r7 σ c8) gX5_perform_X4_addGoods rfl rfl rfl ndX4_addGoods ⟨Nat.le_of_ble_eq_true rfl, Nat.le_of_ble_eq_true rfl⟩ (by have := nT_lt nT10; omega) (nT_e nT10 _) rfl rfl rfl (Nat.le_of_ble_eq_true rfl) rfl dX5_perform_87 ?_
    exact nr_i2 C0 hr dX5_perform_90 h
  have h := niff q11 h
  by_cases q15 : (σ (k1 + 1) (x2).toNatClampNeg) = 108
  · have h := nift q15 h
    refine nx_look (tgt := 91) (off := 68) C0 dX5_perform_23 rfl (by rw [q15]; rfl) (by decide) ?_
    refine nx_aload_n C0 2 dX5_perform_91 rfl ?_
    refine nx_gX5_mind C0 hh2 hh3 dX5_perform_92 ?_
    refine nx_iload_n C0 1 dX5_perform_95 rfl ?_
    refine nx_iload C0 0 dX5_perform_96 rfl ?_
    obtain ⟨r13, t14, c12, h⟩ := nbind2 h
    refine nx_cVi (ci := 4) (n := 2) (As := [.int r2, .int r4]) (st := []) C0 (mX4_addLoan l D B hB nT10 r2 r4 σ c12) gX5_perform_X4_addLoan rfl rfl rfl ndX4_addLoan ⟨Nat.le_of_ble_eq_true rfl, Nat.le_of_ble_eq_true rfl⟩ (by have := nT_lt nT10; omega) (nT_e nT10 _) rfl rfl rfl (Nat.le_of_ble_eq_true rfl) rfl dX5_perform_98 ?_
    exact nr_i2 C0 hr dX5_perform_101 h
  have h := niff q15 h
  by_cases q19 : (σ (k1 + 1) (x2).toNatClampNeg) = 112
  · have h := nift q19 h
    refine nx_look (tgt := 64) (off := 41) C0 dX5_perform_23 rfl (by rw [q19]; rfl) (by decide) ?_
    refine nx_aload_n C0 2 dX5_perform_64 rfl ?_
    refine nx_gX5_mind C0 hh2 hh3 dX5_perform_65 ?_
    refine nx_iload_n C0 1 dX5_perform_68 rfl ?_
    obtain ⟨r17, t18, c16, h⟩ := nbind2 h
    refine nx_cVi (ci := 4) (n := 1) (As := [.int r2]) (st := []) C0 (mX4_addPerson l D B hB nT10 r2 σ c16) gX5_perform_X4_addPerson rfl rfl rfl ndX4_addPerson ⟨Nat.le_of_ble_eq_true rfl, Nat.le_of_ble_eq_true rfl⟩ (by have := nT_lt nT10; omega) (nT_e nT10 _) rfl rfl rfl (Nat.le_of_ble_eq_true rfl) rfl dX5_perform_69 ?_
    exact nr_i2 C0 hr dX5_perform_72 h
  have h := niff q19 h
  by_cases q23 : (σ (k1 + 1) (x2).toNatClampNeg) = 115
  · have h := nift q23 h
    refine nx_look (tgt := 102) (off := 79) C0 dX5_perform_23 rfl (by rw [q23]; rfl) (by decide) ?_
    refine nx_aload_n C0 2 dX5_perform_102 rfl ?_
    refine nx_gX5_mind C0 hh2 hh3 dX5_perform_103 ?_
    refine nx_iload_n C0 1 dX5_perform_106 rfl ?_
    refine nx_iload C0 0 dX5_perform_107 rfl ?_
    obtain ⟨r21, t22, c20, h⟩ := nbind2 h
    refine nx_cVi (ci := 4) (n := 2) (As := [.int r2, .int r4]) (st := []) C0 (mX4_liken l D B hB nT10 r2 r4 σ c20) gX5_perform_X4_liken rfl rfl rfl ndX4_liken ⟨Nat.le_of_ble_eq_true rfl, Nat.le_of_ble_eq_true rfl⟩ (by have := nT_lt nT10; omega) (nT_e nT10 _) rfl rfl rfl (Nat.le_of_ble_eq_true rfl) rfl dX5_perform_109 ?_
    exact nr_i2 C0 hr dX5_perform_112 h
  have h := niff q23 h
  refine nx_look (tgt := 113) (off := 90) C0 dX5_perform_23 rfl ((lv_osw (a := 103) q11 (by decide)).trans ((lv_osw (a := 108) q15 (by decide)).trans ((lv_osw (a := 112) q19 (by decide)).trans ((lv_osw (a := 115) q23 (by decide)).trans (rfl))))) (by decide) ?_
  refine nx_aload_n C0 2 dX5_perform_113 rfl ?_
  refine nx_gX5_mind C0 hh2 hh3 dX5_perform_114 ?_
  refine nx_bipush (v := 10) C0 dX5_perform_117 (by decide) ?_
  refine nx_iload_n C0 1 dX5_perform_119 rfl ?_
  refine nx_imul C0 dX5_perform_120 ?_
  refine nx_iload C0 0 dX5_perform_121 rfl ?_
  refine nx_iadd C0 dX5_perform_123 ?_
  obtain ⟨r25, t26, c24, h⟩ := nbind2 h
  refine nx_cVi (ci := 4) (n := 1) (As := [.int (((10 : Int32) * r2) + r4)]) (st := []) C0 (mX4_passWeeks l D B hB nT10 (((10 : Int32) * r2) + r4) σ c24) gX5_perform_X4_passWeeks rfl rfl rfl ndX4_passWeeks ⟨Nat.le_of_ble_eq_true rfl, Nat.le_of_ble_eq_true rfl⟩ (by have := nT_lt nT10; omega) (nT_e nT10 _) rfl rfl rfl (Nat.le_of_ble_eq_true rfl) rfl dX5_perform_124 ?_
  exact nr_i2 C0 hr dX5_perform_127 h
def rmX5_town : Room := { frames := 6, cells := 0, slots := 0, locals := 145 }
theorem ndX5_town : yX5_town.cls = RX5 ∧ yX5_town.cls ≠ "java/lang/invoke/MethodHandle" ∧ yX5_town.cls ≠ "java/lang/invoke/VarHandle" ∧ (parseMethodDescriptor yX5_town.desc).map (fun d => d.parameters.length) = some 1 := by decide +kernel
set_option maxRecDepth 100000 in
set_option maxHeartbeats 4000000 in
theorem mX5_town (l : Launch) (D : va_G) (B : nBT) (hB : nInj B) (x1 : Int32) (σ : nS) {r : Int32} {σ1 : nS} (h : fX5_town x1 σ = some (r, σ1)) : nMi l D B yX5_town wsX5_town rmX5_town [.ref (na B 0), .int x1] σ r σ1 := by
  refine nmet (cc := cX5_town) (maxL := 7) (ret := (some .int)) (own := RX5) (av := [.ref (na B 0), .int x1]) (nQi D B r σ1) hB (by decide) rfl rfl (Nat.le_of_ble_eq_true rfl) (fun p e s m args below meth c C0 hr => ?_)
  have hh0 : ∀ w ∈ wsX10, w ∈ wsX5_town := by decide +kernel
  have hh1 := C0.2.2.2.2.1 (Cond.fieldLink RX5 70 "NotInTheCoin$Shelf" "size" "I") (by decide +kernel)
  have hh2 : ∀ w ∈ wsX50, w ∈ wsX5_town := by decide +kernel
  have hh3 := C0.2.2.2.2.1 (Cond.fieldLink RX5 10 "NotInTheCoin" "now" "LNotInTheCoin$Town;") (by decide +kernel)
  have hh4 := C0.2.2.2.2.1 (Cond.fieldLink RX5 16 "NotInTheCoin" "mind" "LNotInTheCoin$Town;") (by decide +kernel)
  have hh5 := C0.2.2.2.2.1 (Cond.fieldLink RX5 77 "NotInTheCoin$Shelf" "cells" "[I") (by decide +kernel)
  have hh6 := C0.2.2.2.2.1 (Cond.fieldLink RX5 24 "NotInTheCoin" "shelves" "[LNotInTheCoin$Shelf;") (by decide +kernel)
  have hh7 := C0.2.2.2.2.1 (Cond.fieldLink RX5 58 "NotInTheCoin$Shelf" "sort" "I") (by decide +kernel)
  have hfX5_town_b78 : ∀  (n : Nat) (k_3 : Nat) (hk_3 : nSh k_3) (a5 : Int32) (a6 : Int32) (σ : nS) (h : fX5_town_b78  n k_3 a5 a6 σ = some (r, σ1)), nJ p l e rmX5_town s m args below meth c 0 0 (MQ below (nQi D B r σ1 s.heap.size) args s 0 0 (nA B s.heap.size)) D B 7 78 [(0, .ref (na B 0)), (3, .ref (na B k_3)), (5, .int a5), (6, .int a6)] [] σ := by
    intro  n
    induction n with
    | zero => intro k_3 hk_3 a5 a6 σ h; cases h
    | succ n ih =>
        intro k_3 hk_3 a5 a6 σ h
        rw [fX5_town_b78] at h
        refine nx_iload C0 3 dX5_town_78 rfl ?_
        refine nx_aload_n C0 1 dX5_town_80 rfl ?_
        refine nx_gX1_size C0 hk_3 hh0 hh1 dX5_town_81 ?_
        refine nx_icmp_ge (tgt := 127) C0 dX5_town_84 (by decide) (fun q => ?_) (fun q => ?_)
        · have h := nift q h
          refine nx_aload_n C0 0 dX5_town_127 rfl ?_
          refine nx_gX5_now C0 hh2 hh3 dX5_town_128 ?_
          refine nx_aload_n C0 0 dX5_town_131 rfl ?_
          refine nx_gX5_mind C0 hh2 hh4 dX5_town_132 ?_
          obtain ⟨r2, t3, c1, h⟩ := nbind2 h
          refine nx_cVv (ci := 4) (n := 1) (As := [.ref (na B 10)]) (st := []) C0 (mX4_become l D B hB nT1 nT10 σ c1) gX5_town_X4_become rfl rfl rfl ndX4_become ⟨Nat.le_of_ble_eq_true rfl, Nat.le_of_ble_eq_true rfl⟩ (by have := nT_lt nT1; omega) (nT_e nT1 _) rfl rfl rfl (Nat.le_of_ble_eq_true rfl) rfl dX5_town_135 ?_
          refine nx_iload C0 2 dX5_town_138 rfl ?_
          exact nr_i2 C0 hr dX5_town_140 h
        · have h := niff q h
          refine nx_aload_n C0 0 dX5_town_87 rfl ?_
          refine nx_aload_n C0 1 dX5_town_88 rfl ?_
          refine nx_iload C0 3 dX5_town_89 rfl ?_
          obtain ⟨r5, t6, c4, h⟩ := nbind2 h
          refine nx_cVi (ci := 5) (n := 2) (As := [.ref (na B k_3), .int a6]) (st := []) C0 (mX5_perform l D B hB hk_3 a6 σ c4) gX5_town_X5_perform rfl rfl rfl ndX5_perform ⟨Nat.le_of_ble_eq_true rfl, Nat.le_of_ble_eq_true rfl⟩ (by decide) rfl rfl rfl rfl (Nat.le_of_ble_eq_true rfl) rfl dX5_town_91 ?_
          refine nx_if_ge (tgt := 104) C0 dX5_town_94 (by decide) (fun q => ?_) (fun q => ?_)
          · have h := nift q h
            obtain ⟨v7, ev7, h⟩ := nlet h
            refine nx_iinc (v := v7) (lv' := [(5, .int v7), (0, .ref (na B 0)), (3, .ref (na B k_3)), (6, .int a6)]) C0 2 dX5_town_104 rfl ev7 (by decide) rfl ?_
            refine nx_iload C0 3 dX5_town_107 rfl ?_
            refine nx_aload_n C0 2 dX5_town_109 rfl ?_
            refine nx_gX1_cells C0 hk_3 hh0 hh5 dX5_town_110 ?_
            refine nx_iload C0 3 dX5_town_113 rfl ?_
            obtain ⟨g8, h⟩ := nguard h
            refine nx_iald C0 (nSh_c hk_3) g8 dX5_town_115 ?_
            obtain ⟨r10, c9, h⟩ := nbind h
            refine nx_cSi (n := 1) (As := [.int (t6 (k_3 + 1) (a6).toNatClampNeg)]) (st := [.int a6]) C0 (mX5_digitsBehind l D B hB (t6 (k_3 + 1) (a6).toNatClampNeg) t6 c9) gX5_town_X5_digitsBehind rfl rfl rfl ndX5_digitsBehind ⟨Nat.le_of_ble_eq_true rfl, Nat.le_of_ble_eq_true rfl⟩ rfl (Nat.le_of_ble_eq_true rfl) rfl dX5_town_116 ?_
            refine nx_iconst (v := 2) C0 dX5_town_119 (by decide) ?_
            refine nx_iadd C0 dX5_town_120 ?_
            refine nx_iadd C0 dX5_town_121 ?_
            obtain ⟨v11, ev11, h⟩ := nlet h
            refine nx_istore (i := 6) (y := v11) (lv' := [(6, .int v11), (5, .int v7), (0, .ref (na B 0)), (3, .ref (na B k_3))]) C0 dX5_town_122 (by decide) ev11 rfl ?_
            refine nx_goto (tgt := 78) C0 dX5_town_124 (by decide) ?_
            refine nx_lv (lv' := [(0, .ref (na B 0)), (3, .ref (na B k_3)), (5, .int v7), (6, .int v11)]) [2, 3, 1, 0] rfl ?_
            exact ih k_3 hk_3 v7 v11 t6 h
          · have h := niff q h
            refine nx_sipush (v := -2000) C0 dX5_town_97 (by decide) ?_
            refine nx_iload C0 3 dX5_town_100 rfl ?_
            refine nx_isub C0 dX5_town_102 ?_
            exact nr_i2 C0 hr dX5_town_103 h
  refine nx_lv (lv' := [(0, .ref (na B 0)), (1, .int x1)]) [0, 1] rfl ?_
  rw [fX5_town] at h
  refine nx_iload_n C0 1 dX5_town_0 rfl ?_
  obtain ⟨r13, c12, h⟩ := nbind h
  refine nx_cSi (n := 1) (As := [.int x1]) (st := []) C0 (mX5_isShelf l D B hB x1 σ c12) gX5_town_X5_isShelf rfl rfl rfl ndX5_isShelf ⟨Nat.le_of_ble_eq_true rfl, Nat.le_of_ble_eq_true rfl⟩ rfl (Nat.le_of_ble_eq_true rfl) rfl dX5_town_1 ?_
  refine nx_if_ne (tgt := 9) C0 dX5_town_4 (by decide) (fun q => ?_) (fun q => ?_)
  · have h := niff q h
    refine nx_aload_n C0 0 dX5_town_9 rfl ?_
    refine nx_gX5_shelves C0 hh2 hh6 dX5_town_10 ?_
    refine nx_iload_n C0 1 dX5_town_13 rfl ?_
    obtain ⟨g14, h⟩ := nguard h
    refine nx_aldS C0 g14 dX5_town_14 ?_
    refine nx_iconst (v := 2) C0 dX5_town_15 (by decide) ?_
    obtain ⟨r16, c15, h⟩ := nbind h
    refine nx_cVi (ci := 1) (n := 1) (As := [.int (2 : Int32)]) (st := []) C0 (mX1_refusal l D B hB (nSh_of g14) (2 : Int32) σ c15) gX5_town_X1_refusal rfl rfl rfl ndX1_refusal ⟨Nat.le_of_ble_eq_true rfl, Nat.le_of_ble_eq_true rfl⟩ (by have := nSh_lt (nSh_of g14); omega) (nSh_e (nSh_of g14) _) rfl rfl rfl (Nat.le_of_ble_eq_true rfl) rfl dX5_town_16 ?_
    refine nx_istore_n (i := 2) (y := r16) (lv' := [(2, .int r16), (0, .ref (na B 0)), (1, .int x1)]) C0 dX5_town_19 rfl (by decide) rfl rfl ?_
    refine nx_iload_n C0 0 dX5_town_20 rfl ?_
    refine nx_if_eq (tgt := 26) C0 dX5_town_21 (by decide) (fun q => ?_) (fun q => ?_)
    · have h := nift q h
      refine nx_aload_n C0 1 dX5_town_26 rfl ?_
      refine nx_gX5_shelves C0 hh2 hh6 dX5_town_27 ?_
      refine nx_iload_n C0 2 dX5_town_30 rfl ?_
      obtain ⟨g17, h⟩ := nguard h
      refine nx_aldS C0 g17 dX5_town_31 ?_
      refine nx_astore_n (i := 3) (y := na B (29 + 2 * (x1).toNatClampNeg)) (lv' := [(3, .ref (na B (29 + 2 * (x1).toNatClampNeg))), (2, .int r16), (0, .ref (na B 0)), (1, .int x1)]) C0 dX5_town_32 rfl (by decide) rfl rfl ?_
      refine nx_aload_n C0 0 dX5_town_33 rfl ?_
      refine nx_gX1_sort C0 (nSh_of g17) hh0 hh7 dX5_town_34 ?_
      refine nx_if_eq (tgt := 43) C0 dX5_town_37 (by decide) (fun q => ?_) (fun q => ?_)
      · have h := nift q h
        refine nx_aload_n C0 0 dX5_town_43 rfl ?_
        obtain ⟨r19, c18, h⟩ := nbind h
        refine nx_cSi (n := 1) (As := [.ref (na B (29 + 2 * (x1).toNatClampNeg))]) (st := []) C0 (mX5_badPlace l D B hB (nSh_of g17) σ c18) gX5_town_X5_badPlace rfl rfl rfl ndX5_badPlace ⟨Nat.le_of_ble_eq_true rfl, Nat.le_of_ble_eq_true rfl⟩ rfl (Nat.le_of_ble_eq_true rfl) rfl dX5_town_44 ?_
        refine nx_istore (i := 4) (y := r19) (lv' := [(4, .int r19), (3, .ref (na B (29 + 2 * (x1).toNatClampNeg))), (2, .int r16), (0, .ref (na B 0)), (1, .int x1)]) C0 dX5_town_47 (by decide) rfl rfl ?_
        refine nx_iload C0 0 dX5_town_49 rfl ?_
        refine nx_if_lt (tgt := 61) C0 dX5_town_51 (by decide) (fun q => ?_) (fun q => ?_)
        · have h := nift q h
          refine nx_aload_n C0 3 dX5_town_61 rfl ?_
          refine nx_gX5_mind C0 hh2 hh4 dX5_town_62 ?_
          refine nx_aload_n C0 3 dX5_town_65 rfl ?_
          refine nx_gX5_now C0 hh2 hh3 dX5_town_66 ?_
          obtain ⟨r21, t22, c20, h⟩ := nbind2 h
          refine nx_cVv (ci := 4) (n := 1) (As := [.ref (na B 1)]) (st := []) C0 (mX4_become l D B hB nT10 nT1 σ c20) gX5_town_X4_become rfl rfl rfl ndX4_become ⟨Nat.le_of_ble_eq_true rfl, Nat.le_of_ble_eq_true rfl⟩ (by have := nT_lt nT10; omega) (nT_e nT10 _) rfl rfl rfl (Nat.le_of_ble_eq_true rfl) rfl dX5_town_69 ?_
          refine nx_iconst (v := 0) C0 dX5_town_72 (by decide) ?_
          refine nx_istore (i := 5) (y := (0 : Int32)) (lv' := [(5, .int (0 : Int32)), (4, .int r19), (3, .ref (na B (29 + 2 * (x1).toNatClampNeg))), (2, .int r16), (0, .ref (na B 0)), (1, .int x1)]) C0 dX5_town_73 (by decide) rfl rfl ?_
          refine nx_iconst (v := 0) C0 dX5_town_75 (by decide) ?_
          refine nx_istore (i := 6) (y := (0 : Int32)) (lv' := [(6, .int (0 : Int32)), (5, .int (0 : Int32)), (4, .int r19), (3, .ref (na B (29 + 2 * (x1).toNatClampNeg))), (2, .int r16), (0, .ref (na B 0)), (1, .int x1)]) C0 dX5_town_76 (by decide) rfl rfl ?_
          refine nx_lv (lv' := [(0, .ref (na B 0)), (3, .ref (na B (29 + 2 * (x1).toNatClampNeg))), (5, .int (0 : Int32)), (6, .int (0 : Int32))]) [5, 3, 1, 0] rfl ?_
          exact hfX5_town_b78 4096 (29 + 2 * (x1).toNatClampNeg) (nSh_of g17) (0 : Int32) (0 : Int32) t22 h
        · have h := niff q h
          refine nx_sipush (v := -1000) C0 dX5_town_54 (by decide) ?_
          refine nx_iload C0 0 dX5_town_57 rfl ?_
          refine nx_isub C0 dX5_town_59 ?_
          exact nr_i2 C0 hr dX5_town_60 h
      · have h := niff q h
        refine nx_bipush (v := -12) C0 dX5_town_40 (by decide) ?_
        exact nr_i2 C0 hr dX5_town_42 h
    · have h := niff q h
      refine nx_iload_n C0 0 dX5_town_24 rfl ?_
      exact nr_i2 C0 hr dX5_town_25 h
  · have h := nift q h
    refine nx_iconst (v := -1) C0 dX5_town_7 (by decide) ?_
    exact nr_i2 C0 hr dX5_town_8 h
def rmX5_good : Room := { frames := 1, cells := 0, slots := 0, locals := 21 }
theorem ndX5_good : yX5_good.cls = RX5 ∧ yX5_good.cls ≠ "java/lang/invoke/MethodHandle" ∧ yX5_good.cls ≠ "java/lang/invoke/VarHandle" ∧ (parseMethodDescriptor yX5_good.desc).map (fun d => d.parameters.length) = some 2 := by decide +kernel
set_option maxRecDepth 100000 in
set_option maxHeartbeats 4000000 in
theorem mX5_good (l : Launch) (D : va_G) (B : nBT) (hB : nInj B) (x1 : Int32) (x2 : Int32) (σ : nS) {r : Int32}  (h : fX5_good x1 x2 σ = some r) : nMi l D B yX5_good wsX5_good rmX5_good [.ref (na B 0), .int x1, .int x2] σ r σ := by
  refine nmet (cc := cX5_good) (maxL := 3) (ret := (some .int)) (own := RX5) (av := [.ref (na B 0), .int x1, .int x2]) (nQi D B r σ) hB (by decide) rfl rfl (Nat.le_of_ble_eq_true rfl) (fun p e s m args below meth c C0 hr => ?_)
  have hh0 : ∀ w ∈ wsX50, w ∈ wsX5_good := by decide +kernel
  have hh1 := C0.2.2.2.2.1 (Cond.fieldLink RX5 10 "NotInTheCoin" "now" "LNotInTheCoin$Town;") (by decide +kernel)
  have hh2 : ∀ w ∈ wsX40, w ∈ wsX5_good := by decide +kernel
  have hh3 := C0.2.2.2.2.1 (Cond.fieldLink RX5 87 "NotInTheCoin$Town" "kindOf" "[I") (by decide +kernel)
  have hh4 := C0.2.2.2.2.1 (Cond.fieldLink RX5 90 "NotInTheCoin$Town" "figureOf" "[I") (by decide +kernel)
  have hh5 := C0.2.2.2.2.1 (Cond.fieldLink RX5 93 "NotInTheCoin$Town" "ownerOf" "[I") (by decide +kernel)
  have hh6 := C0.2.2.2.2.1 (Cond.fieldLink RX5 96 "NotInTheCoin$Town" "classOf" "[I") (by decide +kernel)
  refine nx_lv (lv' := [(0, .ref (na B 0)), (1, .int x1), (2, .int x2)]) [0, 1, 2] rfl ?_
  rw [fX5_good] at h
  refine nx_aload_n C0 0 dX5_good_0 rfl ?_
  refine nx_gX5_now C0 hh0 hh1 dX5_good_1 ?_
  refine nx_iload_n C0 1 dX5_good_4 rfl ?_
  obtain ⟨r2, c1, h⟩ := nbind h
  refine nx_cVi (ci := 4) (n := 1) (As := [.int x1]) (st := []) C0 (mX4_isGoods l D B hB nT1 x1 σ c1) gX5_good_X4_isGoods rfl rfl rfl ndX4_isGoods ⟨Nat.le_of_ble_eq_true rfl, Nat.le_of_ble_eq_true rfl⟩ (by have := nT_lt nT1; omega) (nT_e nT1 _) rfl rfl rfl (Nat.le_of_ble_eq_true rfl) rfl dX5_good_5 ?_
  refine nx_if_ne (tgt := 13) C0 dX5_good_8 (by decide) (fun q => ?_) (fun q => ?_)
  · have h := niff q h
    refine nx_iload_n C0 2 dX5_good_13 rfl ?_
    by_cases q4 : x2 = 0
    · have h := nift q4 h
      refine nx_tabIn (tgt := 44) C0 0 dX5_good_14 (by rw [q4]; rfl) (by decide) (by decide) rfl (by decide) ?_
      refine nx_aload_n C0 0 dX5_good_44 rfl ?_
      refine nx_gX5_now C0 hh0 hh1 dX5_good_45 ?_
      refine nx_gX4_kindOf C0 nT1 hh2 hh3 dX5_good_48 ?_
      refine nx_iload_n C0 1 dX5_good_51 rfl ?_
      obtain ⟨g3, h⟩ := nguard h
      refine nx_iald C0 (nT_a1 nT1) g3 dX5_good_52 ?_
      exact nr_i C0 hr dX5_good_53 h
    have h := niff q4 h
    by_cases q6 : x2 = 1
    · have h := nift q6 h
      refine nx_tabIn (tgt := 54) C0 1 dX5_good_14 (by rw [q6]; rfl) (by decide) (by decide) rfl (by decide) ?_
      refine nx_aload_n C0 0 dX5_good_54 rfl ?_
      refine nx_gX5_now C0 hh0 hh1 dX5_good_55 ?_
      refine nx_gX4_figureOf C0 nT1 hh2 hh4 dX5_good_58 ?_
      refine nx_iload_n C0 1 dX5_good_61 rfl ?_
      obtain ⟨g5, h⟩ := nguard h
      refine nx_iald C0 (nT_a2 nT1) g5 dX5_good_62 ?_
      exact nr_i C0 hr dX5_good_63 h
    have h := niff q6 h
    by_cases q8 : x2 = 2
    · have h := nift q8 h
      refine nx_tabIn (tgt := 64) C0 2 dX5_good_14 (by rw [q8]; rfl) (by decide) (by decide) rfl (by decide) ?_
      refine nx_aload_n C0 0 dX5_good_64 rfl ?_
      refine nx_gX5_now C0 hh0 hh1 dX5_good_65 ?_
      refine nx_gX4_ownerOf C0 nT1 hh2 hh5 dX5_good_68 ?_
      refine nx_iload_n C0 1 dX5_good_71 rfl ?_
      obtain ⟨g7, h⟩ := nguard h
      refine nx_iald C0 (nT_a3 nT1) g7 dX5_good_72 ?_
      exact nr_i C0 hr dX5_good_73 h
    have h := niff q8 h
    by_cases q11 : x2 = 3
    · have h := nift q11 h
      refine nx_tabIn (tgt := 74) C0 3 dX5_good_14 (by rw [q11]; rfl) (by decide) (by decide) rfl (by decide) ?_
      refine nx_aload_n C0 0 dX5_good_74 rfl ?_
      refine nx_gX5_now C0 hh0 hh1 dX5_good_75 ?_
      refine nx_gX4_classOf C0 nT1 hh2 hh6 dX5_good_78 ?_
      refine nx_aload_n C0 0 dX5_good_81 rfl ?_
      refine nx_gX5_now C0 hh0 hh1 dX5_good_82 ?_
      refine nx_gX4_kindOf C0 nT1 hh2 hh3 dX5_good_85 ?_
      refine nx_iload_n C0 1 dX5_good_88 rfl ?_
      obtain ⟨g9, h⟩ := nguard h
      refine nx_iald C0 (nT_a1 nT1) g9 dX5_good_89 ?_
      obtain ⟨g10, h⟩ := nguard h
      refine nx_iald C0 (nT_a8 nT1) g10 dX5_good_90 ?_
      exact nr_i C0 hr dX5_good_91 h
    have h := niff q11 h
    have q4n := nne q4 (z := 0) rfl
    have q6n := nne q6 (z := 1) rfl
    have q8n := nne q8 (z := 2) rfl
    have q11n := nne q11 (z := 3) rfl
    refine nx_tabOut (tgt := 92) C0 dX5_good_14 (by omega) (by decide) ?_
    refine nx_iconst (v := -1) C0 dX5_good_92 (by decide) ?_
    exact nr_i C0 hr dX5_good_93 h
  · have h := nift q h
    refine nx_iconst (v := -1) C0 dX5_good_11 (by decide) ?_
    exact nr_i C0 hr dX5_good_12 h
def rmX5_person : Room := { frames := 3, cells := 0, slots := 0, locals := 73 }
theorem ndX5_person : yX5_person.cls = RX5 ∧ yX5_person.cls ≠ "java/lang/invoke/MethodHandle" ∧ yX5_person.cls ≠ "java/lang/invoke/VarHandle" ∧ (parseMethodDescriptor yX5_person.desc).map (fun d => d.parameters.length) = some 2 := by decide +kernel
set_option maxRecDepth 100000 in
set_option maxHeartbeats 4000000 in
theorem mX5_person (l : Launch) (D : va_G) (B : nBT) (hB : nInj B) (x1 : Int32) (x2 : Int32) (σ : nS) {r : Int32}  (h : fX5_person x1 x2 σ = some r) : nMi l D B yX5_person wsX5_person rmX5_person [.ref (na B 0), .int x1, .int x2] σ r σ := by
  refine nmet (cc := cX5_person) (maxL := 3) (ret := (some .int)) (own := RX5) (av := [.ref (na B 0), .int x1, .int x2]) (nQi D B r σ) hB (by decide) rfl rfl (Nat.le_of_ble_eq_true rfl) (fun p e s m args below meth c C0 hr => ?_)
  have hh0 : ∀ w ∈ wsX50, w ∈ wsX5_person := by decide +kernel
  have hh1 := C0.2.2.2.2.1 (Cond.fieldLink RX5 10 "NotInTheCoin" "now" "LNotInTheCoin$Town;") (by decide +kernel)
  have hh2 : ∀ w ∈ wsX40, w ∈ wsX5_person := by decide +kernel
  have hh3 := C0.2.2.2.2.1 (Cond.fieldLink RX5 102 "NotInTheCoin$Town" "tasteOf" "[I") (by decide +kernel)
  refine nx_lv (lv' := [(0, .ref (na B 0)), (1, .int x1), (2, .int x2)]) [0, 1, 2] rfl ?_
  rw [fX5_person] at h
  refine nx_aload_n C0 0 dX5_person_0 rfl ?_
  refine nx_gX5_now C0 hh0 hh1 dX5_person_1 ?_
  refine nx_iload_n C0 1 dX5_person_4 rfl ?_
  obtain ⟨r2, c1, h⟩ := nbind h
  refine nx_cVi (ci := 4) (n := 1) (As := [.int x1]) (st := []) C0 (mX4_isPerson l D B hB nT1 x1 σ c1) gX5_person_X4_isPerson rfl rfl rfl ndX4_isPerson ⟨Nat.le_of_ble_eq_true rfl, Nat.le_of_ble_eq_true rfl⟩ (by have := nT_lt nT1; omega) (nT_e nT1 _) rfl rfl rfl (Nat.le_of_ble_eq_true rfl) rfl dX5_person_5 ?_
  refine nx_if_ne (tgt := 13) C0 dX5_person_8 (by decide) (fun q => ?_) (fun q => ?_)
  · have h := niff q h
    refine nx_iload_n C0 2 dX5_person_13 rfl ?_
    by_cases q4 : x2 = 0
    · have h := nift q4 h
      refine nx_tabIn (tgt := 40) C0 0 dX5_person_14 (by rw [q4]; rfl) (by decide) (by decide) rfl (by decide) ?_
      refine nx_aload_n C0 0 dX5_person_40 rfl ?_
      refine nx_gX5_now C0 hh0 hh1 dX5_person_41 ?_
      refine nx_gX4_tasteOf C0 nT1 hh2 hh3 dX5_person_44 ?_
      refine nx_iload_n C0 1 dX5_person_47 rfl ?_
      obtain ⟨g3, h⟩ := nguard h
      refine nx_iald C0 (nT_a4 nT1) g3 dX5_person_48 ?_
      exact nr_i C0 hr dX5_person_49 h
    have h := niff q4 h
    by_cases q7 : x2 = 1
    · have h := nift q7 h
      refine nx_tabIn (tgt := 50) C0 1 dX5_person_14 (by rw [q7]; rfl) (by decide) (by decide) rfl (by decide) ?_
      refine nx_aload_n C0 0 dX5_person_50 rfl ?_
      refine nx_gX5_now C0 hh0 hh1 dX5_person_51 ?_
      refine nx_iload_n C0 1 dX5_person_54 rfl ?_
      obtain ⟨r6, c5, h⟩ := nbind h
      refine nx_cVi (ci := 4) (n := 1) (As := [.int x1]) (st := []) C0 (mX4_goodsHad l D B hB nT1 x1 σ c5) gX5_person_X4_goodsHad rfl rfl rfl ndX4_goodsHad ⟨Nat.le_of_ble_eq_true rfl, Nat.le_of_ble_eq_true rfl⟩ (by have := nT_lt nT1; omega) (nT_e nT1 _) rfl rfl rfl (Nat.le_of_ble_eq_true rfl) rfl dX5_person_55 ?_
      exact nr_i C0 hr dX5_person_58 h
    have h := niff q7 h
    by_cases q10 : x2 = 2
    · have h := nift q10 h
      refine nx_tabIn (tgt := 59) C0 2 dX5_person_14 (by rw [q10]; rfl) (by decide) (by decide) rfl (by decide) ?_
      refine nx_aload_n C0 0 dX5_person_59 rfl ?_
      refine nx_gX5_now C0 hh0 hh1 dX5_person_60 ?_
      refine nx_iload_n C0 1 dX5_person_63 rfl ?_
      obtain ⟨r9, c8, h⟩ := nbind h
      refine nx_cVi (ci := 4) (n := 1) (As := [.int x1]) (st := []) C0 (mX4_wealth l D B hB nT1 x1 σ c8) gX5_person_X4_wealth rfl rfl rfl ndX4_wealth ⟨Nat.le_of_ble_eq_true rfl, Nat.le_of_ble_eq_true rfl⟩ (by have := nT_lt nT1; omega) (nT_e nT1 _) rfl rfl rfl (Nat.le_of_ble_eq_true rfl) rfl dX5_person_64 ?_
      exact nr_i C0 hr dX5_person_67 h
    have h := niff q10 h
    have q4n := nne q4 (z := 0) rfl
    have q7n := nne q7 (z := 1) rfl
    have q10n := nne q10 (z := 2) rfl
    refine nx_tabOut (tgt := 68) C0 dX5_person_14 (by omega) (by decide) ?_
    refine nx_iconst (v := -1) C0 dX5_person_68 (by decide) ?_
    exact nr_i C0 hr dX5_person_69 h
  · have h := nift q h
    refine nx_iconst (v := -1) C0 dX5_person_11 (by decide) ?_
    exact nr_i C0 hr dX5_person_12 h
def rmX5_loan : Room := { frames := 1, cells := 0, slots := 0, locals := 21 }
theorem ndX5_loan : yX5_loan.cls = RX5 ∧ yX5_loan.cls ≠ "java/lang/invoke/MethodHandle" ∧ yX5_loan.cls ≠ "java/lang/invoke/VarHandle" ∧ (parseMethodDescriptor yX5_loan.desc).map (fun d => d.parameters.length) = some 2 := by decide +kernel
set_option maxRecDepth 100000 in
set_option maxHeartbeats 4000000 in
theorem mX5_loan (l : Launch) (D : va_G) (B : nBT) (hB : nInj B) (x1 : Int32) (x2 : Int32) (σ : nS) {r : Int32}  (h : fX5_loan x1 x2 σ = some r) : nMi l D B yX5_loan wsX5_loan rmX5_loan [.ref (na B 0), .int x1, .int x2] σ r σ := by
  refine nmet (cc := cX5_loan) (maxL := 3) (ret := (some .int)) (own := RX5) (av := [.ref (na B 0), .int x1, .int x2]) (nQi D B r σ) hB (by decide) rfl rfl (Nat.le_of_ble_eq_true rfl) (fun p e s m args below meth c C0 hr => ?_)
  have hh0 : ∀ w ∈ wsX50, w ∈ wsX5_loan := by decide +kernel
  have hh1 := C0.2.2.2.2.1 (Cond.fieldLink RX5 10 "NotInTheCoin" "now" "LNotInTheCoin$Town;") (by decide +kernel)
  have hh2 : ∀ w ∈ wsX40, w ∈ wsX5_loan := by decide +kernel
  have hh3 := C0.2.2.2.2.1 (Cond.fieldLink RX5 114 "NotInTheCoin$Town" "lenderOf" "[I") (by decide +kernel)
  have hh4 := C0.2.2.2.2.1 (Cond.fieldLink RX5 117 "NotInTheCoin$Town" "debtorOf" "[I") (by decide +kernel)
  have hh5 := C0.2.2.2.2.1 (Cond.fieldLink RX5 120 "NotInTheCoin$Town" "goodsOf" "[I") (by decide +kernel)
  have hh6 := C0.2.2.2.2.1 (Cond.fieldLink RX5 123 "NotInTheCoin$Town" "open" "I") (by decide +kernel)
  refine nx_lv (lv' := [(0, .ref (na B 0)), (1, .int x1), (2, .int x2)]) [0, 1, 2] rfl ?_
  rw [fX5_loan] at h
  refine nx_aload_n C0 0 dX5_loan_0 rfl ?_
  refine nx_gX5_now C0 hh0 hh1 dX5_loan_1 ?_
  refine nx_iload_n C0 1 dX5_loan_4 rfl ?_
  obtain ⟨r2, c1, h⟩ := nbind h
  refine nx_cVi (ci := 4) (n := 1) (As := [.int x1]) (st := []) C0 (mX4_isLoan l D B hB nT1 x1 σ c1) gX5_loan_X4_isLoan rfl rfl rfl ndX4_isLoan ⟨Nat.le_of_ble_eq_true rfl, Nat.le_of_ble_eq_true rfl⟩ (by have := nT_lt nT1; omega) (nT_e nT1 _) rfl rfl rfl (Nat.le_of_ble_eq_true rfl) rfl dX5_loan_5 ?_
  refine nx_if_ne (tgt := 13) C0 dX5_loan_8 (by decide) (fun q => ?_) (fun q => ?_)
  · have h := niff q h
    refine nx_iload_n C0 2 dX5_loan_13 rfl ?_
    by_cases q4 : x2 = 0
    · have h := nift q4 h
      refine nx_tabIn (tgt := 44) C0 0 dX5_loan_14 (by rw [q4]; rfl) (by decide) (by decide) rfl (by decide) ?_
      refine nx_aload_n C0 0 dX5_loan_44 rfl ?_
      refine nx_gX5_now C0 hh0 hh1 dX5_loan_45 ?_
      refine nx_gX4_lenderOf C0 nT1 hh2 hh3 dX5_loan_48 ?_
      refine nx_iload_n C0 1 dX5_loan_51 rfl ?_
      obtain ⟨g3, h⟩ := nguard h
      refine nx_iald C0 (nT_a5 nT1) g3 dX5_loan_52 ?_
      exact nr_i C0 hr dX5_loan_53 h
    have h := niff q4 h
    by_cases q6 : x2 = 1
    · have h := nift q6 h
      refine nx_tabIn (tgt := 54) C0 1 dX5_loan_14 (by rw [q6]; rfl) (by decide) (by decide) rfl (by decide) ?_
      refine nx_aload_n C0 0 dX5_loan_54 rfl ?_
      refine nx_gX5_now C0 hh0 hh1 dX5_loan_55 ?_
      refine nx_gX4_debtorOf C0 nT1 hh2 hh4 dX5_loan_58 ?_
      refine nx_iload_n C0 1 dX5_loan_61 rfl ?_
      obtain ⟨g5, h⟩ := nguard h
      refine nx_iald C0 (nT_a6 nT1) g5 dX5_loan_62 ?_
      exact nr_i C0 hr dX5_loan_63 h
    have h := niff q6 h
    by_cases q8 : x2 = 2
    · have h := nift q8 h
      refine nx_tabIn (tgt := 64) C0 2 dX5_loan_14 (by rw [q8]; rfl) (by decide) (by decide) rfl (by decide) ?_
      refine nx_aload_n C0 0 dX5_loan_64 rfl ?_
      refine nx_gX5_now C0 hh0 hh1 dX5_loan_65 ?_
      refine nx_gX4_goodsOf C0 nT1 hh2 hh5 dX5_loan_68 ?_
      refine nx_iload_n C0 1 dX5_loan_71 rfl ?_
      obtain ⟨g7, h⟩ := nguard h
      refine nx_iald C0 (nT_a7 nT1) g7 dX5_loan_72 ?_
      exact nr_i C0 hr dX5_loan_73 h
    have h := niff q8 h
    by_cases q11 : x2 = 3
    · have h := nift q11 h
      refine nx_tabIn (tgt := 74) C0 3 dX5_loan_14 (by rw [q11]; rfl) (by decide) (by decide) rfl (by decide) ?_
      refine nx_aload_n C0 0 dX5_loan_74 rfl ?_
      refine nx_gX5_now C0 hh0 hh1 dX5_loan_75 ?_
      refine nx_gX4_open C0 nT1 hh2 hh6 dX5_loan_78 ?_
      refine nx_iload_n C0 1 dX5_loan_81 rfl ?_
      obtain ⟨r10, c9, h⟩ := nbind h
      refine nx_cSi (n := 2) (As := [.int (σ 1 10), .int x1]) (st := []) C0 (mX5_has l D B hB (σ 1 10) x1 σ c9) gX5_loan_X5_has rfl rfl rfl ndX5_has ⟨Nat.le_of_ble_eq_true rfl, Nat.le_of_ble_eq_true rfl⟩ rfl (Nat.le_of_ble_eq_true rfl) rfl dX5_loan_82 ?_
      refine nx_if_eq (tgt := 92) C0 dX5_loan_85 (by decide) (fun q => ?_) (fun q => ?_)
      · have h := nift q h
        refine nx_iconst (v := 0) C0 dX5_loan_92 (by decide) ?_
        exact nr_i C0 hr dX5_loan_93 h
      · have h := niff q h
        refine nx_iconst (v := 1) C0 dX5_loan_88 (by decide) ?_
        refine nx_goto (tgt := 93) C0 dX5_loan_89 (by decide) ?_
        exact nr_i C0 hr dX5_loan_93 h
    have h := niff q11 h
    have q4n := nne q4 (z := 0) rfl
    have q6n := nne q6 (z := 1) rfl
    have q8n := nne q8 (z := 2) rfl
    have q11n := nne q11 (z := 3) rfl
    refine nx_tabOut (tgt := 94) C0 dX5_loan_14 (by omega) (by decide) ?_
    refine nx_iconst (v := -1) C0 dX5_loan_94 (by decide) ?_
    exact nr_i C0 hr dX5_loan_95 h
  · have h := nift q h
    refine nx_iconst (v := -1) C0 dX5_loan_11 (by decide) ?_
    exact nr_i C0 hr dX5_loan_12 h
def rmX5_comes : Room := { frames := 1, cells := 0, slots := 0, locals := 21 }
theorem ndX5_comes : yX5_comes.cls = RX5 ∧ yX5_comes.cls ≠ "java/lang/invoke/MethodHandle" ∧ yX5_comes.cls ≠ "java/lang/invoke/VarHandle" ∧ (parseMethodDescriptor yX5_comes.desc).map (fun d => d.parameters.length) = some 1 := by decide +kernel
set_option maxRecDepth 100000 in
set_option maxHeartbeats 4000000 in
theorem mX5_comes (l : Launch) (D : va_G) (B : nBT) (hB : nInj B) (x1 : Int32) (σ : nS) {r : Int32} {σ1 : nS} (h : fX5_comes x1 σ = some (r, σ1)) : nMi l D B yX5_comes wsX5_comes rmX5_comes [.ref (na B 0), .int x1] σ r σ1 := by
  refine nmet (cc := cX5_comes) (maxL := 2) (ret := (some .int)) (own := RX5) (av := [.ref (na B 0), .int x1]) (nQi D B r σ1) hB (by decide) rfl rfl (Nat.le_of_ble_eq_true rfl) (fun p e s m args below meth c C0 hr => ?_)
  have hh0 : ∀ w ∈ wsX50, w ∈ wsX5_comes := by decide +kernel
  have hh1 := C0.2.2.2.2.1 (Cond.fieldLink RX5 10 "NotInTheCoin" "now" "LNotInTheCoin$Town;") (by decide +kernel)
  refine nx_lv (lv' := [(0, .ref (na B 0)), (1, .int x1)]) [0, 1] rfl ?_
  rw [fX5_comes] at h
  refine nx_aload_n C0 0 dX5_comes_0 rfl ?_
  refine nx_gX5_now C0 hh0 hh1 dX5_comes_1 ?_
  refine nx_iload_n C0 1 dX5_comes_4 rfl ?_
  obtain ⟨r2, t3, c1, h⟩ := nbind2 h
  refine nx_cVi (ci := 4) (n := 1) (As := [.int x1]) (st := []) C0 (mX4_addPerson l D B hB nT1 x1 σ c1) gX5_comes_X4_addPerson rfl rfl rfl ndX4_addPerson ⟨Nat.le_of_ble_eq_true rfl, Nat.le_of_ble_eq_true rfl⟩ (by have := nT_lt nT1; omega) (nT_e nT1 _) rfl rfl rfl (Nat.le_of_ble_eq_true rfl) rfl dX5_comes_5 ?_
  exact nr_i2 C0 hr dX5_comes_8 h
def rmX5_brings : Room := { frames := 2, cells := 0, slots := 0, locals := 44 }
theorem ndX5_brings : yX5_brings.cls = RX5 ∧ yX5_brings.cls ≠ "java/lang/invoke/MethodHandle" ∧ yX5_brings.cls ≠ "java/lang/invoke/VarHandle" ∧ (parseMethodDescriptor yX5_brings.desc).map (fun d => d.parameters.length) = some 2 := by decide +kernel
set_option maxRecDepth 100000 in
set_option maxHeartbeats 4000000 in
theorem mX5_brings (l : Launch) (D : va_G) (B : nBT) (hB : nInj B) (x1 : Int32) (x2 : Int32) (σ : nS) {r : Int32} {σ1 : nS} (h : fX5_brings x1 x2 σ = some (r, σ1)) : nMi l D B yX5_brings wsX5_brings rmX5_brings [.ref (na B 0), .int x1, .int x2] σ r σ1 := by
  refine nmet (cc := cX5_brings) (maxL := 4) (ret := (some .int)) (own := RX5) (av := [.ref (na B 0), .int x1, .int x2]) (nQi D B r σ1) hB (by decide) rfl rfl (Nat.le_of_ble_eq_true rfl) (fun p e s m args below meth c C0 hr => ?_)
  have hh0 : ∀ w ∈ wsX50, w ∈ wsX5_brings := by decide +kernel
  have hh1 := C0.2.2.2.2.1 (Cond.fieldLink RX5 10 "NotInTheCoin" "now" "LNotInTheCoin$Town;") (by decide +kernel)
  have hh2 := C0.2.2.2.2.1 (Cond.fieldLink RX5 24 "NotInTheCoin" "shelves" "[LNotInTheCoin$Shelf;") (by decide +kernel)
  have hh3 : ∀ w ∈ wsX10, w ∈ wsX5_brings := by decide +kernel
  have hh4 := C0.2.2.2.2.1 (Cond.fieldLink RX5 133 "NotInTheCoin$Shelf" "kind" "I") (by decide +kernel)
  have hh5 := C0.2.2.2.2.1 (Cond.fieldLink RX5 136 "NotInTheCoin$Shelf" "figure" "I") (by decide +kernel)
  refine nx_lv (lv' := [(0, .ref (na B 0)), (1, .int x1), (2, .int x2)]) [0, 1, 2] rfl ?_
  rw [fX5_brings] at h
  refine nx_iload_n C0 1 dX5_brings_0 rfl ?_
  obtain ⟨r2, c1, h⟩ := nbind h
  refine nx_cSi (n := 1) (As := [.int x1]) (st := []) C0 (mX5_isShelf l D B hB x1 σ c1) gX5_brings_X5_isShelf rfl rfl rfl ndX5_isShelf ⟨Nat.le_of_ble_eq_true rfl, Nat.le_of_ble_eq_true rfl⟩ rfl (Nat.le_of_ble_eq_true rfl) rfl dX5_brings_1 ?_
  refine nx_if_eq (tgt := 18) C0 dX5_brings_4 (by decide) (fun q => ?_) (fun q => ?_)
  · have h := nift q h
    refine nx_iconst (v := -1) C0 dX5_brings_18 (by decide) ?_
    exact nr_i2 C0 hr dX5_brings_19 h
  · have h := niff q h
    refine nx_aload_n C0 0 dX5_brings_7 rfl ?_
    refine nx_gX5_now C0 hh0 hh1 dX5_brings_8 ?_
    refine nx_iload_n C0 2 dX5_brings_11 rfl ?_
    obtain ⟨r4, c3, h⟩ := nbind h
    refine nx_cVi (ci := 4) (n := 1) (As := [.int x2]) (st := []) C0 (mX4_isPerson l D B hB nT1 x2 σ c3) gX5_brings_X4_isPerson rfl rfl rfl ndX4_isPerson ⟨Nat.le_of_ble_eq_true rfl, Nat.le_of_ble_eq_true rfl⟩ (by have := nT_lt nT1; omega) (nT_e nT1 _) rfl rfl rfl (Nat.le_of_ble_eq_true rfl) rfl dX5_brings_12 ?_
    refine nx_if_ne (tgt := 20) C0 dX5_brings_15 (by decide) (fun q => ?_) (fun q => ?_)
    · have h := niff q h
      refine nx_aload_n C0 0 dX5_brings_20 rfl ?_
      refine nx_gX5_shelves C0 hh0 hh2 dX5_brings_21 ?_
      refine nx_iload_n C0 1 dX5_brings_24 rfl ?_
      obtain ⟨g5, h⟩ := nguard h
      refine nx_aldS C0 g5 dX5_brings_25 ?_
      refine nx_iconst (v := 1) C0 dX5_brings_26 (by decide) ?_
      obtain ⟨r7, c6, h⟩ := nbind h
      refine nx_cVi (ci := 1) (n := 1) (As := [.int (1 : Int32)]) (st := []) C0 (mX1_refusal l D B hB (nSh_of g5) (1 : Int32) σ c6) gX5_brings_X1_refusal rfl rfl rfl ndX1_refusal ⟨Nat.le_of_ble_eq_true rfl, Nat.le_of_ble_eq_true rfl⟩ (by have := nSh_lt (nSh_of g5); omega) (nSh_e (nSh_of g5) _) rfl rfl rfl (Nat.le_of_ble_eq_true rfl) rfl dX5_brings_27 ?_
      refine nx_istore_n (i := 3) (y := r7) (lv' := [(3, .int r7), (0, .ref (na B 0)), (1, .int x1), (2, .int x2)]) C0 dX5_brings_30 rfl (by decide) rfl rfl ?_
      refine nx_iload_n C0 0 dX5_brings_31 rfl ?_
      refine nx_if_eq (tgt := 37) C0 dX5_brings_32 (by decide) (fun q => ?_) (fun q => ?_)
      · have h := nift q h
        refine nx_aload_n C0 1 dX5_brings_37 rfl ?_
        refine nx_gX5_now C0 hh0 hh1 dX5_brings_38 ?_
        refine nx_aload_n C0 1 dX5_brings_41 rfl ?_
        refine nx_gX5_shelves C0 hh0 hh2 dX5_brings_42 ?_
        refine nx_iload_n C0 2 dX5_brings_45 rfl ?_
        obtain ⟨g8, h⟩ := nguard h
        refine nx_aldS C0 g8 dX5_brings_46 ?_
        refine nx_gX1_kind C0 (nSh_of g8) hh3 hh4 dX5_brings_47 ?_
        refine nx_aload_n C0 1 dX5_brings_50 rfl ?_
        refine nx_gX5_shelves C0 hh0 hh2 dX5_brings_51 ?_
        refine nx_iload_n C0 2 dX5_brings_54 rfl ?_
        obtain ⟨g9, h⟩ := nguard h
        refine nx_aldS C0 g9 dX5_brings_55 ?_
        refine nx_gX1_figure C0 (nSh_of g9) hh3 hh5 dX5_brings_56 ?_
        refine nx_iload_n C0 3 dX5_brings_59 rfl ?_
        obtain ⟨r11, t12, c10, h⟩ := nbind2 h
        refine nx_cVi (ci := 4) (n := 3) (As := [.int (σ (29 + 2 * (x1).toNatClampNeg) 1), .int (σ (29 + 2 * (x1).toNatClampNeg) 2), .int x2]) (st := []) C0 (mX4_addGoods l D B hB nT1 (σ (29 + 2 * (x1).toNatClampNeg) 1) (σ (29 + 2 * (x1).toNatClampNeg) 2) x2 σ c10) gX5_brings_X4_addGoods rfl rfl rfl ndX4_addGoods ⟨Nat.le_of_ble_eq_true rfl, Nat.le_of_ble_eq_true rfl⟩ (by have := nT_lt nT1; omega) (nT_e nT1 _) rfl rfl rfl (Nat.le_of_ble_eq_true rfl) rfl dX5_brings_60 ?_
        exact nr_i2 C0 hr dX5_brings_63 h
      · have h := niff q h
        refine nx_iload_n C0 0 dX5_brings_35 rfl ?_
        exact nr_i2 C0 hr dX5_brings_36 h
    · have h := nift q h
      refine nx_iconst (v := -1) C0 dX5_brings_18 (by decide) ?_
      exact nr_i2 C0 hr dX5_brings_19 h
def rmX5_lends : Room := { frames := 2, cells := 0, slots := 0, locals := 43 }
theorem ndX5_lends : yX5_lends.cls = RX5 ∧ yX5_lends.cls ≠ "java/lang/invoke/MethodHandle" ∧ yX5_lends.cls ≠ "java/lang/invoke/VarHandle" ∧ (parseMethodDescriptor yX5_lends.desc).map (fun d => d.parameters.length) = some 2 := by decide +kernel
set_option maxRecDepth 100000 in
set_option maxHeartbeats 4000000 in
theorem mX5_lends (l : Launch) (D : va_G) (B : nBT) (hB : nInj B) (x1 : Int32) (x2 : Int32) (σ : nS) {r : Int32} {σ1 : nS} (h : fX5_lends x1 x2 σ = some (r, σ1)) : nMi l D B yX5_lends wsX5_lends rmX5_lends [.ref (na B 0), .int x1, .int x2] σ r σ1 := by
  refine nmet (cc := cX5_lends) (maxL := 3) (ret := (some .int)) (own := RX5) (av := [.ref (na B 0), .int x1, .int x2]) (nQi D B r σ1) hB (by decide) rfl rfl (Nat.le_of_ble_eq_true rfl) (fun p e s m args below meth c C0 hr => ?_)
  have hh0 : ∀ w ∈ wsX50, w ∈ wsX5_lends := by decide +kernel
  have hh1 := C0.2.2.2.2.1 (Cond.fieldLink RX5 10 "NotInTheCoin" "now" "LNotInTheCoin$Town;") (by decide +kernel)
  refine nx_lv (lv' := [(0, .ref (na B 0)), (1, .int x1), (2, .int x2)]) [0, 1, 2] rfl ?_
  rw [fX5_lends] at h
  refine nx_aload_n C0 0 dX5_lends_0 rfl ?_
  refine nx_gX5_now C0 hh0 hh1 dX5_lends_1 ?_
  refine nx_iload_n C0 1 dX5_lends_4 rfl ?_
  refine nx_iload_n C0 2 dX5_lends_5 rfl ?_
  obtain ⟨r2, t3, c1, h⟩ := nbind2 h
  refine nx_cVi (ci := 4) (n := 2) (As := [.int x1, .int x2]) (st := []) C0 (mX4_addLoan l D B hB nT1 x1 x2 σ c1) gX5_lends_X4_addLoan rfl rfl rfl ndX4_addLoan ⟨Nat.le_of_ble_eq_true rfl, Nat.le_of_ble_eq_true rfl⟩ (by have := nT_lt nT1; omega) (nT_e nT1 _) rfl rfl rfl (Nat.le_of_ble_eq_true rfl) rfl dX5_lends_6 ?_
  exact nr_i2 C0 hr dX5_lends_9 h
def rmX5_pays : Room := { frames := 3, cells := 0, slots := 0, locals := 76 }
theorem ndX5_pays : yX5_pays.cls = RX5 ∧ yX5_pays.cls ≠ "java/lang/invoke/MethodHandle" ∧ yX5_pays.cls ≠ "java/lang/invoke/VarHandle" ∧ (parseMethodDescriptor yX5_pays.desc).map (fun d => d.parameters.length) = some 2 := by decide +kernel
set_option maxRecDepth 100000 in
set_option maxHeartbeats 4000000 in
theorem mX5_pays (l : Launch) (D : va_G) (B : nBT) (hB : nInj B) (x1 : Int32) (x2 : Int32) (σ : nS) {r : Int32} {σ1 : nS} (h : fX5_pays x1 x2 σ = some (r, σ1)) : nMi l D B yX5_pays wsX5_pays rmX5_pays [.ref (na B 0), .int x1, .int x2] σ r σ1 := by
  refine nmet (cc := cX5_pays) (maxL := 3) (ret := (some .int)) (own := RX5) (av := [.ref (na B 0), .int x1, .int x2]) (nQi D B r σ1) hB (by decide) rfl rfl (Nat.le_of_ble_eq_true rfl) (fun p e s m args below meth c C0 hr => ?_)
  have hh0 : ∀ w ∈ wsX50, w ∈ wsX5_pays := by decide +kernel
  have hh1 := C0.2.2.2.2.1 (Cond.fieldLink RX5 10 "NotInTheCoin" "now" "LNotInTheCoin$Town;") (by decide +kernel)
  have hh2 : ∀ w ∈ wsX40, w ∈ wsX5_pays := by decide +kernel
  have hh3 := C0.2.2.2.2.1 (Cond.fieldLink RX5 123 "NotInTheCoin$Town" "open" "I") (by decide +kernel)
  refine nx_lv (lv' := [(0, .ref (na B 0)), (1, .int x1), (2, .int x2)]) [0, 1, 2] rfl ?_
  rw [fX5_pays] at h
  refine nx_aload_n C0 0 dX5_pays_0 rfl ?_
  refine nx_gX5_now C0 hh0 hh1 dX5_pays_1 ?_
  refine nx_iload_n C0 1 dX5_pays_4 rfl ?_
  obtain ⟨r2, c1, h⟩ := nbind h
  refine nx_cVi (ci := 4) (n := 1) (As := [.int x1]) (st := []) C0 (mX4_isLoan l D B hB nT1 x1 σ c1) gX5_pays_X4_isLoan rfl rfl rfl ndX4_isLoan ⟨Nat.le_of_ble_eq_true rfl, Nat.le_of_ble_eq_true rfl⟩ (by have := nT_lt nT1; omega) (nT_e nT1 _) rfl rfl rfl (Nat.le_of_ble_eq_true rfl) rfl dX5_pays_5 ?_
  refine nx_if_eq (tgt := 22) C0 dX5_pays_8 (by decide) (fun q => ?_) (fun q => ?_)
  · have h := nift q h
    refine nx_iconst (v := -1) C0 dX5_pays_22 (by decide) ?_
    exact nr_i2 C0 hr dX5_pays_23 h
  · have h := niff q h
    refine nx_aload_n C0 0 dX5_pays_11 rfl ?_
    refine nx_gX5_now C0 hh0 hh1 dX5_pays_12 ?_
    refine nx_iload_n C0 2 dX5_pays_15 rfl ?_
    obtain ⟨r4, c3, h⟩ := nbind h
    refine nx_cVi (ci := 4) (n := 1) (As := [.int x2]) (st := []) C0 (mX4_isGoods l D B hB nT1 x2 σ c3) gX5_pays_X4_isGoods rfl rfl rfl ndX4_isGoods ⟨Nat.le_of_ble_eq_true rfl, Nat.le_of_ble_eq_true rfl⟩ (by have := nT_lt nT1; omega) (nT_e nT1 _) rfl rfl rfl (Nat.le_of_ble_eq_true rfl) rfl dX5_pays_16 ?_
    refine nx_if_ne (tgt := 24) C0 dX5_pays_19 (by decide) (fun q => ?_) (fun q => ?_)
    · have h := niff q h
      refine nx_aload_n C0 0 dX5_pays_24 rfl ?_
      refine nx_gX5_now C0 hh0 hh1 dX5_pays_25 ?_
      refine nx_iload_n C0 1 dX5_pays_28 rfl ?_
      obtain ⟨r6, c5, h⟩ := nbind h
      refine nx_cVi (ci := 4) (n := 1) (As := [.int x1]) (st := []) C0 (mX4_payers l D B hB nT1 x1 σ c5) gX5_pays_X4_payers rfl rfl rfl ndX4_payers ⟨Nat.le_of_ble_eq_true rfl, Nat.le_of_ble_eq_true rfl⟩ (by have := nT_lt nT1; omega) (nT_e nT1 _) rfl rfl rfl (Nat.le_of_ble_eq_true rfl) rfl dX5_pays_29 ?_
      refine nx_iload_n C0 2 dX5_pays_32 rfl ?_
      obtain ⟨r8, c7, h⟩ := nbind h
      refine nx_cSi (n := 2) (As := [.int r6, .int x2]) (st := []) C0 (mX5_has l D B hB r6 x2 σ c7) gX5_pays_X5_has rfl rfl rfl ndX5_has ⟨Nat.le_of_ble_eq_true rfl, Nat.le_of_ble_eq_true rfl⟩ rfl (Nat.le_of_ble_eq_true rfl) rfl dX5_pays_33 ?_
      refine nx_if_ne (tgt := 42) C0 dX5_pays_36 (by decide) (fun q => ?_) (fun q => ?_)
      · have h := niff q h
        refine nx_aload_n C0 0 dX5_pays_42 rfl ?_
        refine nx_gX5_now C0 hh0 hh1 dX5_pays_43 ?_
        refine nx_iload_n C0 1 dX5_pays_46 rfl ?_
        refine nx_iload_n C0 2 dX5_pays_47 rfl ?_
        obtain ⟨r10, t11, c9, h⟩ := nbind2 h
        refine nx_cVv (ci := 4) (n := 2) (As := [.int x1, .int x2]) (st := []) C0 (mX4_settle l D B hB nT1 x1 x2 σ c9) gX5_pays_X4_settle rfl rfl rfl ndX4_settle ⟨Nat.le_of_ble_eq_true rfl, Nat.le_of_ble_eq_true rfl⟩ (by have := nT_lt nT1; omega) (nT_e nT1 _) rfl rfl rfl (Nat.le_of_ble_eq_true rfl) rfl dX5_pays_48 ?_
        refine nx_aload_n C0 0 dX5_pays_51 rfl ?_
        refine nx_gX5_now C0 hh0 hh1 dX5_pays_52 ?_
        refine nx_gX4_open C0 nT1 hh2 hh3 dX5_pays_55 ?_
        obtain ⟨r13, c12, h⟩ := nbind h
        refine nx_cSi (n := 1) (As := [.int (t11 1 10)]) (st := []) C0 (mJ6_bitCount_0f7a4 l D B hB (t11 1 10) t11 c12) gX5_pays_J6_bitCount_0f7a4 rfl rfl rfl ndJ6_bitCount_0f7a4 ⟨Nat.le_of_ble_eq_true rfl, Nat.le_of_ble_eq_true rfl⟩ rfl (Nat.le_of_ble_eq_true rfl) rfl dX5_pays_58 ?_
        exact nr_i2 C0 hr dX5_pays_61 h
      · have h := nift q h
        refine nx_bipush (v := -3) C0 dX5_pays_39 (by decide) ?_
        exact nr_i2 C0 hr dX5_pays_41 h
    · have h := nift q h
      refine nx_iconst (v := -1) C0 dX5_pays_22 (by decide) ?_
      exact nr_i2 C0 hr dX5_pays_23 h
def rmX5_sames : Room := { frames := 2, cells := 0, slots := 0, locals := 43 }
theorem ndX5_sames : yX5_sames.cls = RX5 ∧ yX5_sames.cls ≠ "java/lang/invoke/MethodHandle" ∧ yX5_sames.cls ≠ "java/lang/invoke/VarHandle" ∧ (parseMethodDescriptor yX5_sames.desc).map (fun d => d.parameters.length) = some 2 := by decide +kernel
set_option maxRecDepth 100000 in
set_option maxHeartbeats 4000000 in
theorem mX5_sames (l : Launch) (D : va_G) (B : nBT) (hB : nInj B) (x1 : Int32) (x2 : Int32) (σ : nS) {r : Int32} {σ1 : nS} (h : fX5_sames x1 x2 σ = some (r, σ1)) : nMi l D B yX5_sames wsX5_sames rmX5_sames [.ref (na B 0), .int x1, .int x2] σ r σ1 := by
  refine nmet (cc := cX5_sames) (maxL := 3) (ret := (some .int)) (own := RX5) (av := [.ref (na B 0), .int x1, .int x2]) (nQi D B r σ1) hB (by decide) rfl rfl (Nat.le_of_ble_eq_true rfl) (fun p e s m args below meth c C0 hr => ?_)
  have hh0 : ∀ w ∈ wsX50, w ∈ wsX5_sames := by decide +kernel
  have hh1 := C0.2.2.2.2.1 (Cond.fieldLink RX5 10 "NotInTheCoin" "now" "LNotInTheCoin$Town;") (by decide +kernel)
  refine nx_lv (lv' := [(0, .ref (na B 0)), (1, .int x1), (2, .int x2)]) [0, 1, 2] rfl ?_
  rw [fX5_sames] at h
  refine nx_aload_n C0 0 dX5_sames_0 rfl ?_
  refine nx_gX5_now C0 hh0 hh1 dX5_sames_1 ?_
  refine nx_iload_n C0 1 dX5_sames_4 rfl ?_
  refine nx_iload_n C0 2 dX5_sames_5 rfl ?_
  obtain ⟨r2, t3, c1, h⟩ := nbind2 h
  refine nx_cVi (ci := 4) (n := 2) (As := [.int x1, .int x2]) (st := []) C0 (mX4_liken l D B hB nT1 x1 x2 σ c1) gX5_sames_X4_liken rfl rfl rfl ndX4_liken ⟨Nat.le_of_ble_eq_true rfl, Nat.le_of_ble_eq_true rfl⟩ (by have := nT_lt nT1; omega) (nT_e nT1 _) rfl rfl rfl (Nat.le_of_ble_eq_true rfl) rfl dX5_sames_6 ?_
  exact nr_i2 C0 hr dX5_sames_9 h
def rmX5_weeks : Room := { frames := 5, cells := 0, slots := 0, locals := 121 }
theorem ndX5_weeks : yX5_weeks.cls = RX5 ∧ yX5_weeks.cls ≠ "java/lang/invoke/MethodHandle" ∧ yX5_weeks.cls ≠ "java/lang/invoke/VarHandle" ∧ (parseMethodDescriptor yX5_weeks.desc).map (fun d => d.parameters.length) = some 1 := by decide +kernel
set_option maxRecDepth 100000 in
set_option maxHeartbeats 4000000 in
theorem mX5_weeks (l : Launch) (D : va_G) (B : nBT) (hB : nInj B) (x1 : Int32) (σ : nS) {r : Int32} {σ1 : nS} (h : fX5_weeks x1 σ = some (r, σ1)) : nMi l D B yX5_weeks wsX5_weeks rmX5_weeks [.ref (na B 0), .int x1] σ r σ1 := by
  refine nmet (cc := cX5_weeks) (maxL := 2) (ret := (some .int)) (own := RX5) (av := [.ref (na B 0), .int x1]) (nQi D B r σ1) hB (by decide) rfl rfl (Nat.le_of_ble_eq_true rfl) (fun p e s m args below meth c C0 hr => ?_)
  have hh0 : ∀ w ∈ wsX50, w ∈ wsX5_weeks := by decide +kernel
  have hh1 := C0.2.2.2.2.1 (Cond.fieldLink RX5 10 "NotInTheCoin" "now" "LNotInTheCoin$Town;") (by decide +kernel)
  refine nx_lv (lv' := [(0, .ref (na B 0)), (1, .int x1)]) [0, 1] rfl ?_
  rw [fX5_weeks] at h
  refine nx_aload_n C0 0 dX5_weeks_0 rfl ?_
  refine nx_gX5_now C0 hh0 hh1 dX5_weeks_1 ?_
  refine nx_iload_n C0 1 dX5_weeks_4 rfl ?_
  obtain ⟨r2, t3, c1, h⟩ := nbind2 h
  refine nx_cVi (ci := 4) (n := 1) (As := [.int x1]) (st := []) C0 (mX4_passWeeks l D B hB nT1 x1 σ c1) gX5_weeks_X4_passWeeks rfl rfl rfl ndX4_passWeeks ⟨Nat.le_of_ble_eq_true rfl, Nat.le_of_ble_eq_true rfl⟩ (by have := nT_lt nT1; omega) (nT_e nT1 _) rfl rfl rfl (Nat.le_of_ble_eq_true rfl) rfl dX5_weeks_5 ?_
  exact nr_i2 C0 hr dX5_weeks_8 h
def rmX5_worth : Room := { frames := 2, cells := 0, slots := 0, locals := 50 }
theorem ndX5_worth : yX5_worth.cls = RX5 ∧ yX5_worth.cls ≠ "java/lang/invoke/MethodHandle" ∧ yX5_worth.cls ≠ "java/lang/invoke/VarHandle" ∧ (parseMethodDescriptor yX5_worth.desc).map (fun d => d.parameters.length) = some 2 := by decide +kernel
set_option maxRecDepth 100000 in
set_option maxHeartbeats 4000000 in
theorem mX5_worth (l : Launch) (D : va_G) (B : nBT) (hB : nInj B) (x1 : Int32) (x2 : Int32) (σ : nS) {r : Int32}  (h : fX5_worth x1 x2 σ = some r) : nMi l D B yX5_worth wsX5_worth rmX5_worth [.ref (na B 0), .int x1, .int x2] σ r σ := by
  refine nmet (cc := cX5_worth) (maxL := 3) (ret := (some .int)) (own := RX5) (av := [.ref (na B 0), .int x1, .int x2]) (nQi D B r σ) hB (by decide) rfl rfl (Nat.le_of_ble_eq_true rfl) (fun p e s m args below meth c C0 hr => ?_)
  have hh0 : ∀ w ∈ wsX50, w ∈ wsX5_worth := by decide +kernel
  have hh1 := C0.2.2.2.2.1 (Cond.fieldLink RX5 10 "NotInTheCoin" "now" "LNotInTheCoin$Town;") (by decide +kernel)
  refine nx_lv (lv' := [(0, .ref (na B 0)), (1, .int x1), (2, .int x2)]) [0, 1, 2] rfl ?_
  rw [fX5_worth] at h
  refine nx_aload_n C0 0 dX5_worth_0 rfl ?_
  refine nx_gX5_now C0 hh0 hh1 dX5_worth_1 ?_
  refine nx_iload_n C0 1 dX5_worth_4 rfl ?_
  obtain ⟨r2, c1, h⟩ := nbind h
  refine nx_cVi (ci := 4) (n := 1) (As := [.int x1]) (st := []) C0 (mX4_isPerson l D B hB nT1 x1 σ c1) gX5_worth_X4_isPerson rfl rfl rfl ndX4_isPerson ⟨Nat.le_of_ble_eq_true rfl, Nat.le_of_ble_eq_true rfl⟩ (by have := nT_lt nT1; omega) (nT_e nT1 _) rfl rfl rfl (Nat.le_of_ble_eq_true rfl) rfl dX5_worth_5 ?_
  refine nx_if_eq (tgt := 22) C0 dX5_worth_8 (by decide) (fun q => ?_) (fun q => ?_)
  · have h := nift q h
    refine nx_iconst (v := -1) C0 dX5_worth_22 (by decide) ?_
    exact nr_i C0 hr dX5_worth_23 h
  · have h := niff q h
    refine nx_aload_n C0 0 dX5_worth_11 rfl ?_
    refine nx_gX5_now C0 hh0 hh1 dX5_worth_12 ?_
    refine nx_iload_n C0 2 dX5_worth_15 rfl ?_
    obtain ⟨r4, c3, h⟩ := nbind h
    refine nx_cVi (ci := 4) (n := 1) (As := [.int x2]) (st := []) C0 (mX4_isGoods l D B hB nT1 x2 σ c3) gX5_worth_X4_isGoods rfl rfl rfl ndX4_isGoods ⟨Nat.le_of_ble_eq_true rfl, Nat.le_of_ble_eq_true rfl⟩ (by have := nT_lt nT1; omega) (nT_e nT1 _) rfl rfl rfl (Nat.le_of_ble_eq_true rfl) rfl dX5_worth_16 ?_
    refine nx_if_ne (tgt := 24) C0 dX5_worth_19 (by decide) (fun q => ?_) (fun q => ?_)
    · have h := niff q h
      refine nx_aload_n C0 0 dX5_worth_24 rfl ?_
      refine nx_gX5_now C0 hh0 hh1 dX5_worth_25 ?_
      refine nx_iload_n C0 1 dX5_worth_28 rfl ?_
      refine nx_iload_n C0 2 dX5_worth_29 rfl ?_
      obtain ⟨r6, c5, h⟩ := nbind h
      refine nx_cVi (ci := 4) (n := 2) (As := [.int x1, .int x2]) (st := []) C0 (mX4_worthTo l D B hB nT1 x1 x2 σ c5) gX5_worth_X4_worthTo rfl rfl rfl ndX4_worthTo ⟨Nat.le_of_ble_eq_true rfl, Nat.le_of_ble_eq_true rfl⟩ (by have := nT_lt nT1; omega) (nT_e nT1 _) rfl rfl rfl (Nat.le_of_ble_eq_true rfl) rfl dX5_worth_30 ?_
      exact nr_i C0 hr dX5_worth_33 h
    · have h := nift q h
      refine nx_iconst (v := -1) C0 dX5_worth_22 (by decide) ?_
      exact nr_i C0 hr dX5_worth_23 h
def rmX5_would : Room := { frames := 3, cells := 0, slots := 0, locals := 78 }
theorem ndX5_would : yX5_would.cls = RX5 ∧ yX5_would.cls ≠ "java/lang/invoke/MethodHandle" ∧ yX5_would.cls ≠ "java/lang/invoke/VarHandle" ∧ (parseMethodDescriptor yX5_would.desc).map (fun d => d.parameters.length) = some 3 := by decide +kernel
set_option maxRecDepth 100000 in
set_option maxHeartbeats 4000000 in
theorem mX5_would (l : Launch) (D : va_G) (B : nBT) (hB : nInj B) (x1 : Int32) (x2 : Int32) (x3 : Int32) (σ : nS) {r : Int32}  (h : fX5_would x1 x2 x3 σ = some r) : nMi l D B yX5_would wsX5_would rmX5_would [.ref (na B 0), .int x1, .int x2, .int x3] σ r σ := by
  refine nmet (cc := cX5_would) (maxL := 4) (ret := (some .int)) (own := RX5) (av := [.ref (na B 0), .int x1, .int x2, .int x3]) (nQi D B r σ) hB (by decide) rfl rfl (Nat.le_of_ble_eq_true rfl) (fun p e s m args below meth c C0 hr => ?_)
  have hh0 : ∀ w ∈ wsX50, w ∈ wsX5_would := by decide +kernel
  have hh1 := C0.2.2.2.2.1 (Cond.fieldLink RX5 10 "NotInTheCoin" "now" "LNotInTheCoin$Town;") (by decide +kernel)
  refine nx_lv (lv' := [(0, .ref (na B 0)), (1, .int x1), (2, .int x2), (3, .int x3)]) [0, 1, 2, 3] rfl ?_
  rw [fX5_would] at h
  refine nx_aload_n C0 0 dX5_would_0 rfl ?_
  refine nx_gX5_now C0 hh0 hh1 dX5_would_1 ?_
  refine nx_iload_n C0 1 dX5_would_4 rfl ?_
  obtain ⟨r2, c1, h⟩ := nbind h
  refine nx_cVi (ci := 4) (n := 1) (As := [.int x1]) (st := []) C0 (mX4_isPerson l D B hB nT1 x1 σ c1) gX5_would_X4_isPerson rfl rfl rfl ndX4_isPerson ⟨Nat.le_of_ble_eq_true rfl, Nat.le_of_ble_eq_true rfl⟩ (by have := nT_lt nT1; omega) (nT_e nT1 _) rfl rfl rfl (Nat.le_of_ble_eq_true rfl) rfl dX5_would_5 ?_
  refine nx_if_eq (tgt := 33) C0 dX5_would_8 (by decide) (fun q => ?_) (fun q => ?_)
  · have h := nift q h
    refine nx_iconst (v := -1) C0 dX5_would_33 (by decide) ?_
    exact nr_i C0 hr dX5_would_34 h
  · have h := niff q h
    refine nx_aload_n C0 0 dX5_would_11 rfl ?_
    refine nx_gX5_now C0 hh0 hh1 dX5_would_12 ?_
    refine nx_iload_n C0 2 dX5_would_15 rfl ?_
    obtain ⟨r4, c3, h⟩ := nbind h
    refine nx_cVi (ci := 4) (n := 1) (As := [.int x2]) (st := []) C0 (mX4_isGoods l D B hB nT1 x2 σ c3) gX5_would_X4_isGoods rfl rfl rfl ndX4_isGoods ⟨Nat.le_of_ble_eq_true rfl, Nat.le_of_ble_eq_true rfl⟩ (by have := nT_lt nT1; omega) (nT_e nT1 _) rfl rfl rfl (Nat.le_of_ble_eq_true rfl) rfl dX5_would_16 ?_
    refine nx_if_eq (tgt := 33) C0 dX5_would_19 (by decide) (fun q => ?_) (fun q => ?_)
    · have h := nift q h
      refine nx_iconst (v := -1) C0 dX5_would_33 (by decide) ?_
      exact nr_i C0 hr dX5_would_34 h
    · have h := niff q h
      refine nx_aload_n C0 0 dX5_would_22 rfl ?_
      refine nx_gX5_now C0 hh0 hh1 dX5_would_23 ?_
      refine nx_iload_n C0 3 dX5_would_26 rfl ?_
      obtain ⟨r6, c5, h⟩ := nbind h
      refine nx_cVi (ci := 4) (n := 1) (As := [.int x3]) (st := []) C0 (mX4_isGoods l D B hB nT1 x3 σ c5) gX5_would_X4_isGoods rfl rfl rfl ndX4_isGoods ⟨Nat.le_of_ble_eq_true rfl, Nat.le_of_ble_eq_true rfl⟩ (by have := nT_lt nT1; omega) (nT_e nT1 _) rfl rfl rfl (Nat.le_of_ble_eq_true rfl) rfl dX5_would_27 ?_
      refine nx_if_ne (tgt := 35) C0 dX5_would_30 (by decide) (fun q => ?_) (fun q => ?_)
      · have h := niff q h
        refine nx_aload_n C0 0 dX5_would_35 rfl ?_
        refine nx_gX5_now C0 hh0 hh1 dX5_would_36 ?_
        refine nx_iload_n C0 1 dX5_would_39 rfl ?_
        refine nx_iload_n C0 2 dX5_would_40 rfl ?_
        refine nx_iload_n C0 3 dX5_would_41 rfl ?_
        obtain ⟨r8, c7, h⟩ := nbind h
        refine nx_cVi (ci := 4) (n := 3) (As := [.int x1, .int x2, .int x3]) (st := []) C0 (mX4_isTaken l D B hB nT1 x1 x2 x3 σ c7) gX5_would_X4_isTaken rfl rfl rfl ndX4_isTaken ⟨Nat.le_of_ble_eq_true rfl, Nat.le_of_ble_eq_true rfl⟩ (by have := nT_lt nT1; omega) (nT_e nT1 _) rfl rfl rfl (Nat.le_of_ble_eq_true rfl) rfl dX5_would_42 ?_
        refine nx_if_eq (tgt := 52) C0 dX5_would_45 (by decide) (fun q => ?_) (fun q => ?_)
        · have h := nift q h
          refine nx_iconst (v := 0) C0 dX5_would_52 (by decide) ?_
          exact nr_i C0 hr dX5_would_53 h
        · have h := niff q h
          refine nx_iconst (v := 1) C0 dX5_would_48 (by decide) ?_
          refine nx_goto (tgt := 53) C0 dX5_would_49 (by decide) ?_
          exact nr_i C0 hr dX5_would_53 h
      · have h := nift q h
        refine nx_iconst (v := -1) C0 dX5_would_33 (by decide) ?_
        exact nr_i C0 hr dX5_would_34 h
def rmX5_takes : Room := { frames := 2, cells := 0, slots := 0, locals := 55 }
theorem ndX5_takes : yX5_takes.cls = RX5 ∧ yX5_takes.cls ≠ "java/lang/invoke/MethodHandle" ∧ yX5_takes.cls ≠ "java/lang/invoke/VarHandle" ∧ (parseMethodDescriptor yX5_takes.desc).map (fun d => d.parameters.length) = some 2 := by decide +kernel
set_option maxRecDepth 100000 in
set_option maxHeartbeats 4000000 in
theorem mX5_takes (l : Launch) (D : va_G) (B : nBT) (hB : nInj B) (x1 : Int32) (x2 : Int32) (σ : nS) {r : Int32}  (h : fX5_takes x1 x2 σ = some r) : nMi l D B yX5_takes wsX5_takes rmX5_takes [.ref (na B 0), .int x1, .int x2] σ r σ := by
  refine nmet (cc := cX5_takes) (maxL := 3) (ret := (some .int)) (own := RX5) (av := [.ref (na B 0), .int x1, .int x2]) (nQi D B r σ) hB (by decide) rfl rfl (Nat.le_of_ble_eq_true rfl) (fun p e s m args below meth c C0 hr => ?_)
  have hh0 : ∀ w ∈ wsX50, w ∈ wsX5_takes := by decide +kernel
  have hh1 := C0.2.2.2.2.1 (Cond.fieldLink RX5 10 "NotInTheCoin" "now" "LNotInTheCoin$Town;") (by decide +kernel)
  refine nx_lv (lv' := [(0, .ref (na B 0)), (1, .int x1), (2, .int x2)]) [0, 1, 2] rfl ?_
  rw [fX5_takes] at h
  refine nx_aload_n C0 0 dX5_takes_0 rfl ?_
  refine nx_gX5_now C0 hh0 hh1 dX5_takes_1 ?_
  refine nx_iload_n C0 1 dX5_takes_4 rfl ?_
  obtain ⟨r2, c1, h⟩ := nbind h
  refine nx_cVi (ci := 4) (n := 1) (As := [.int x1]) (st := []) C0 (mX4_isPerson l D B hB nT1 x1 σ c1) gX5_takes_X4_isPerson rfl rfl rfl ndX4_isPerson ⟨Nat.le_of_ble_eq_true rfl, Nat.le_of_ble_eq_true rfl⟩ (by have := nT_lt nT1; omega) (nT_e nT1 _) rfl rfl rfl (Nat.le_of_ble_eq_true rfl) rfl dX5_takes_5 ?_
  refine nx_if_eq (tgt := 22) C0 dX5_takes_8 (by decide) (fun q => ?_) (fun q => ?_)
  · have h := nift q h
    refine nx_iconst (v := -1) C0 dX5_takes_22 (by decide) ?_
    exact nr_i C0 hr dX5_takes_23 h
  · have h := niff q h
    refine nx_aload_n C0 0 dX5_takes_11 rfl ?_
    refine nx_gX5_now C0 hh0 hh1 dX5_takes_12 ?_
    refine nx_iload_n C0 2 dX5_takes_15 rfl ?_
    obtain ⟨r4, c3, h⟩ := nbind h
    refine nx_cVi (ci := 4) (n := 1) (As := [.int x2]) (st := []) C0 (mX4_isGoods l D B hB nT1 x2 σ c3) gX5_takes_X4_isGoods rfl rfl rfl ndX4_isGoods ⟨Nat.le_of_ble_eq_true rfl, Nat.le_of_ble_eq_true rfl⟩ (by have := nT_lt nT1; omega) (nT_e nT1 _) rfl rfl rfl (Nat.le_of_ble_eq_true rfl) rfl dX5_takes_16 ?_
    refine nx_if_ne (tgt := 24) C0 dX5_takes_19 (by decide) (fun q => ?_) (fun q => ?_)
    · have h := niff q h
      refine nx_aload_n C0 0 dX5_takes_24 rfl ?_
      refine nx_gX5_now C0 hh0 hh1 dX5_takes_25 ?_
      refine nx_iload_n C0 1 dX5_takes_28 rfl ?_
      refine nx_iload_n C0 2 dX5_takes_29 rfl ?_
      obtain ⟨r6, c5, h⟩ := nbind h
      refine nx_cVi (ci := 4) (n := 2) (As := [.int x1, .int x2]) (st := []) C0 (mX4_takenFor l D B hB nT1 x1 x2 σ c5) gX5_takes_X4_takenFor rfl rfl rfl ndX4_takenFor ⟨Nat.le_of_ble_eq_true rfl, Nat.le_of_ble_eq_true rfl⟩ (by have := nT_lt nT1; omega) (nT_e nT1 _) rfl rfl rfl (Nat.le_of_ble_eq_true rfl) rfl dX5_takes_30 ?_
      exact nr_i C0 hr dX5_takes_33 h
    · have h := nift q h
      refine nx_iconst (v := -1) C0 dX5_takes_22 (by decide) ?_
      exact nr_i C0 hr dX5_takes_23 h
def rmX5_canPay : Room := { frames := 3, cells := 0, slots := 0, locals := 76 }
theorem ndX5_canPay : yX5_canPay.cls = RX5 ∧ yX5_canPay.cls ≠ "java/lang/invoke/MethodHandle" ∧ yX5_canPay.cls ≠ "java/lang/invoke/VarHandle" ∧ (parseMethodDescriptor yX5_canPay.desc).map (fun d => d.parameters.length) = some 1 := by decide +kernel
set_option maxRecDepth 100000 in
set_option maxHeartbeats 4000000 in
theorem mX5_canPay (l : Launch) (D : va_G) (B : nBT) (hB : nInj B) (x1 : Int32) (σ : nS) {r : Int32}  (h : fX5_canPay x1 σ = some r) : nMi l D B yX5_canPay wsX5_canPay rmX5_canPay [.ref (na B 0), .int x1] σ r σ := by
  refine nmet (cc := cX5_canPay) (maxL := 2) (ret := (some .int)) (own := RX5) (av := [.ref (na B 0), .int x1]) (nQi D B r σ) hB (by decide) rfl rfl (Nat.le_of_ble_eq_true rfl) (fun p e s m args below meth c C0 hr => ?_)
  have hh0 : ∀ w ∈ wsX50, w ∈ wsX5_canPay := by decide +kernel
  have hh1 := C0.2.2.2.2.1 (Cond.fieldLink RX5 10 "NotInTheCoin" "now" "LNotInTheCoin$Town;") (by decide +kernel)
  refine nx_lv (lv' := [(0, .ref (na B 0)), (1, .int x1)]) [0, 1] rfl ?_
  rw [fX5_canPay] at h
  refine nx_aload_n C0 0 dX5_canPay_0 rfl ?_
  refine nx_gX5_now C0 hh0 hh1 dX5_canPay_1 ?_
  refine nx_iload_n C0 1 dX5_canPay_4 rfl ?_
  obtain ⟨r2, c1, h⟩ := nbind h
  refine nx_cVi (ci := 4) (n := 1) (As := [.int x1]) (st := []) C0 (mX4_isLoan l D B hB nT1 x1 σ c1) gX5_canPay_X4_isLoan rfl rfl rfl ndX4_isLoan ⟨Nat.le_of_ble_eq_true rfl, Nat.le_of_ble_eq_true rfl⟩ (by have := nT_lt nT1; omega) (nT_e nT1 _) rfl rfl rfl (Nat.le_of_ble_eq_true rfl) rfl dX5_canPay_5 ?_
  refine nx_if_ne (tgt := 13) C0 dX5_canPay_8 (by decide) (fun q => ?_) (fun q => ?_)
  · have h := niff q h
    refine nx_aload_n C0 0 dX5_canPay_13 rfl ?_
    refine nx_gX5_now C0 hh0 hh1 dX5_canPay_14 ?_
    refine nx_iload_n C0 1 dX5_canPay_17 rfl ?_
    obtain ⟨r4, c3, h⟩ := nbind h
    refine nx_cVi (ci := 4) (n := 1) (As := [.int x1]) (st := []) C0 (mX4_payers l D B hB nT1 x1 σ c3) gX5_canPay_X4_payers rfl rfl rfl ndX4_payers ⟨Nat.le_of_ble_eq_true rfl, Nat.le_of_ble_eq_true rfl⟩ (by have := nT_lt nT1; omega) (nT_e nT1 _) rfl rfl rfl (Nat.le_of_ble_eq_true rfl) rfl dX5_canPay_18 ?_
    exact nr_i C0 hr dX5_canPay_21 h
  · have h := nift q h
    refine nx_iconst (v := -1) C0 dX5_canPay_11 (by decide) ?_
    exact nr_i C0 hr dX5_canPay_12 h
def rmX5_bestPayment : Room := { frames := 3, cells := 0, slots := 0, locals := 77 }
theorem ndX5_bestPayment : yX5_bestPayment.cls = RX5 ∧ yX5_bestPayment.cls ≠ "java/lang/invoke/MethodHandle" ∧ yX5_bestPayment.cls ≠ "java/lang/invoke/VarHandle" ∧ (parseMethodDescriptor yX5_bestPayment.desc).map (fun d => d.parameters.length) = some 1 := by decide +kernel
set_option maxRecDepth 100000 in
set_option maxHeartbeats 4000000 in
theorem mX5_bestPayment (l : Launch) (D : va_G) (B : nBT) (hB : nInj B) (x1 : Int32) (σ : nS) {r : Int32}  (h : fX5_bestPayment x1 σ = some r) : nMi l D B yX5_bestPayment wsX5_bestPayment rmX5_bestPayment [.ref (na B 0), .int x1] σ r σ := by
  refine nmet (cc := cX5_bestPayment) (maxL := 2) (ret := (some .int)) (own := RX5) (av := [.ref (na B 0), .int x1]) (nQi D B r σ) hB (by decide) rfl rfl (Nat.le_of_ble_eq_true rfl) (fun p e s m args below meth c C0 hr => ?_)
  have hh0 : ∀ w ∈ wsX50, w ∈ wsX5_bestPayment := by decide +kernel
  have hh1 := C0.2.2.2.2.1 (Cond.fieldLink RX5 10 "NotInTheCoin" "now" "LNotInTheCoin$Town;") (by decide +kernel)
  have hh2 : ∀ w ∈ wsX40, w ∈ wsX5_bestPayment := by decide +kernel
  have hh3 := C0.2.2.2.2.1 (Cond.fieldLink RX5 114 "NotInTheCoin$Town" "lenderOf" "[I") (by decide +kernel)
  refine nx_lv (lv' := [(0, .ref (na B 0)), (1, .int x1)]) [0, 1] rfl ?_
  rw [fX5_bestPayment] at h
  refine nx_aload_n C0 0 dX5_bestPayment_0 rfl ?_
  refine nx_gX5_now C0 hh0 hh1 dX5_bestPayment_1 ?_
  refine nx_iload_n C0 1 dX5_bestPayment_4 rfl ?_
  obtain ⟨r2, c1, h⟩ := nbind h
  refine nx_cVi (ci := 4) (n := 1) (As := [.int x1]) (st := []) C0 (mX4_isLoan l D B hB nT1 x1 σ c1) gX5_bestPayment_X4_isLoan rfl rfl rfl ndX4_isLoan ⟨Nat.le_of_ble_eq_true rfl, Nat.le_of_ble_eq_true rfl⟩ (by have := nT_lt nT1; omega) (nT_e nT1 _) rfl rfl rfl (Nat.le_of_ble_eq_true rfl) rfl dX5_bestPayment_5 ?_
  refine nx_if_ne (tgt := 13) C0 dX5_bestPayment_8 (by decide) (fun q => ?_) (fun q => ?_)
  · have h := niff q h
    refine nx_aload_n C0 0 dX5_bestPayment_13 rfl ?_
    refine nx_gX5_now C0 hh0 hh1 dX5_bestPayment_14 ?_
    refine nx_aload_n C0 0 dX5_bestPayment_17 rfl ?_
    refine nx_gX5_now C0 hh0 hh1 dX5_bestPayment_18 ?_
    refine nx_gX4_lenderOf C0 nT1 hh2 hh3 dX5_bestPayment_21 ?_
    refine nx_iload_n C0 1 dX5_bestPayment_24 rfl ?_
    obtain ⟨g3, h⟩ := nguard h
    refine nx_iald C0 (nT_a5 nT1) g3 dX5_bestPayment_25 ?_
    refine nx_aload_n C0 0 dX5_bestPayment_26 rfl ?_
    refine nx_gX5_now C0 hh0 hh1 dX5_bestPayment_27 ?_
    refine nx_iload_n C0 1 dX5_bestPayment_30 rfl ?_
    obtain ⟨r5, c4, h⟩ := nbind h
    refine nx_cVi (ci := 4) (n := 1) (As := [.int x1]) (st := [.int (σ (1 + 5) (x1).toNatClampNeg), .ref (na B 1)]) C0 (mX4_payers l D B hB nT1 x1 σ c4) gX5_bestPayment_X4_payers rfl rfl rfl ndX4_payers ⟨Nat.le_of_ble_eq_true rfl, Nat.le_of_ble_eq_true rfl⟩ (by have := nT_lt nT1; omega) (nT_e nT1 _) rfl rfl rfl (Nat.le_of_ble_eq_true rfl) rfl dX5_bestPayment_31 ?_
    refine nx_iconst (v := 1) C0 dX5_bestPayment_34 (by decide) ?_
    obtain ⟨r7, c6, h⟩ := nbind h
    refine nx_cVi (ci := 4) (n := 3) (As := [.int (σ (1 + 5) (x1).toNatClampNeg), .int r5, .int (1 : Int32)]) (st := []) C0 (mX4_choice l D B hB nT1 (σ (1 + 5) (x1).toNatClampNeg) r5 (1 : Int32) σ c6) gX5_bestPayment_X4_choice rfl rfl rfl ndX4_choice ⟨Nat.le_of_ble_eq_true rfl, Nat.le_of_ble_eq_true rfl⟩ (by have := nT_lt nT1; omega) (nT_e nT1 _) rfl rfl rfl (Nat.le_of_ble_eq_true rfl) rfl dX5_bestPayment_35 ?_
    exact nr_i C0 hr dX5_bestPayment_38 h
  · have h := nift q h
    refine nx_iconst (v := -1) C0 dX5_bestPayment_11 (by decide) ?_
    exact nr_i C0 hr dX5_bestPayment_12 h
