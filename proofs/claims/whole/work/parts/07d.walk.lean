def rmX5_imagineWeeks : Room := { frames := 4, cells := 0, slots := 0, locals := 99 }
theorem ndX5_imagineWeeks : yX5_imagineWeeks.cls = RX5 ∧ yX5_imagineWeeks.cls ≠ "java/lang/invoke/MethodHandle" ∧ yX5_imagineWeeks.cls ≠ "java/lang/invoke/VarHandle" ∧ (parseMethodDescriptor yX5_imagineWeeks.desc).map (fun d => d.parameters.length) = some 1 := by decide +kernel
set_option maxRecDepth 100000 in
set_option maxHeartbeats 4000000 in
theorem mX5_imagineWeeks (l : Launch) (D : va_G) (B : nBT) (hB : nInj B) (x1 : Int32) (σ : nS)  {σ1 : nS} (h : fX5_imagineWeeks x1 σ = some ((), σ1)) : nMv l D B yX5_imagineWeeks wsX5_imagineWeeks rmX5_imagineWeeks [.ref (na B 0), .int x1] σ σ1 := by
  refine nmet (cc := cX5_imagineWeeks) (maxL := 3) (ret := none) (own := RX5) (av := [.ref (na B 0), .int x1]) (nQv D B σ1) hB (by decide) rfl rfl (Nat.le_of_ble_eq_true rfl) (fun p e s m args below meth c C0 hr => ?_)
  have hh0 : ∀ w ∈ wsX50, w ∈ wsX5_imagineWeeks := by decide +kernel
  have hh1 := C0.2.2.2.2.1 (Cond.fieldLink RX5 16 "NotInTheCoin" "mind" "LNotInTheCoin$Town;") (by decide +kernel)
  have hh2 := C0.2.2.2.2.1 (Cond.fieldLink RX5 10 "NotInTheCoin" "now" "LNotInTheCoin$Town;") (by decide +kernel)
  have hfX5_imagineWeeks_b13 : ∀  (n : Nat) (a1 : Int32) (a2 : Int32) (σ : nS) (h : fX5_imagineWeeks_b13  n a1 a2 σ = some ((), σ1)), nJ p l e rmX5_imagineWeeks s m args below meth c 0 0 (MQ below (nQv D B σ1 s.heap.size) args s 0 0 (nA B s.heap.size)) D B 3 13 [(0, .ref (na B 0)), (1, .int a1), (2, .int a2)] [] σ := by
    intro  n
    induction n with
    | zero => intro a1 a2 σ h; cases h
    | succ n ih =>
        intro a1 a2 σ h
        rw [fX5_imagineWeeks_b13] at h
        refine nx_iload_n C0 2 dX5_imagineWeeks_13 rfl ?_
        refine nx_iload_n C0 1 dX5_imagineWeeks_14 rfl ?_
        refine nx_icmp_ge (tgt := 31) C0 dX5_imagineWeeks_15 (by decide) (fun q => ?_) (fun q => ?_)
        · have h := nift q h
          exact nr_v2 C0 hr dX5_imagineWeeks_31 h
        · have h := niff q h
          refine nx_aload_n C0 0 dX5_imagineWeeks_18 rfl ?_
          refine nx_gX5_mind C0 hh0 hh1 dX5_imagineWeeks_19 ?_
          obtain ⟨r2, t3, c1, h⟩ := nbind2 h
          refine nx_cVv (ci := 4) (n := 0) (As := []) (st := []) C0 (mX4_passWeek l D B hB nT10 σ c1) gX5_imagineWeeks_X4_passWeek rfl rfl rfl ndX4_passWeek ⟨Nat.le_of_ble_eq_true rfl, Nat.le_of_ble_eq_true rfl⟩ (by have := nT_lt nT10; omega) (nT_e nT10 _) rfl rfl rfl (Nat.le_of_ble_eq_true rfl) rfl dX5_imagineWeeks_22 ?_
          obtain ⟨v4, ev4, h⟩ := nlet h
          refine nx_iinc (v := v4) (lv' := [(2, .int v4), (0, .ref (na B 0)), (1, .int a1)]) C0 2 dX5_imagineWeeks_25 rfl ev4 (by decide) rfl ?_
          refine nx_goto (tgt := 13) C0 dX5_imagineWeeks_28 (by decide) ?_
          refine nx_lv (lv' := [(0, .ref (na B 0)), (1, .int a1), (2, .int v4)]) [1, 2, 0] rfl ?_
          exact ih a1 v4 t3 h
  refine nx_lv (lv' := [(0, .ref (na B 0)), (1, .int x1)]) [0, 1] rfl ?_
  rw [fX5_imagineWeeks] at h
  refine nx_aload_n C0 0 dX5_imagineWeeks_0 rfl ?_
  refine nx_gX5_mind C0 hh0 hh1 dX5_imagineWeeks_1 ?_
  refine nx_aload_n C0 0 dX5_imagineWeeks_4 rfl ?_
  refine nx_gX5_now C0 hh0 hh2 dX5_imagineWeeks_5 ?_
  obtain ⟨r6, t7, c5, h⟩ := nbind2 h
  refine nx_cVv (ci := 4) (n := 1) (As := [.ref (na B 1)]) (st := []) C0 (mX4_become l D B hB nT10 nT1 σ c5) gX5_imagineWeeks_X4_become rfl rfl rfl ndX4_become ⟨Nat.le_of_ble_eq_true rfl, Nat.le_of_ble_eq_true rfl⟩ (by have := nT_lt nT10; omega) (nT_e nT10 _) rfl rfl rfl (Nat.le_of_ble_eq_true rfl) rfl dX5_imagineWeeks_8 ?_
  refine nx_iconst (v := 0) C0 dX5_imagineWeeks_11 (by decide) ?_
  refine nx_istore_n (i := 2) (y := (0 : Int32)) (lv' := [(2, .int (0 : Int32)), (0, .ref (na B 0)), (1, .int x1)]) C0 dX5_imagineWeeks_12 rfl (by decide) rfl rfl ?_
  refine nx_lv (lv' := [(0, .ref (na B 0)), (1, .int x1), (2, .int (0 : Int32))]) [1, 2, 0] rfl ?_
  exact hfX5_imagineWeeks_b13 4096 x1 (0 : Int32) t7 h
def rmX5_hasThen : Room := { frames := 5, cells := 0, slots := 0, locals := 121 }
theorem ndX5_hasThen : yX5_hasThen.cls = RX5 ∧ yX5_hasThen.cls ≠ "java/lang/invoke/MethodHandle" ∧ yX5_hasThen.cls ≠ "java/lang/invoke/VarHandle" ∧ (parseMethodDescriptor yX5_hasThen.desc).map (fun d => d.parameters.length) = some 2 := by decide +kernel
set_option maxRecDepth 100000 in
set_option maxHeartbeats 4000000 in
theorem mX5_hasThen (l : Launch) (D : va_G) (B : nBT) (hB : nInj B) (x1 : Int32) (x2 : Int32) (σ : nS) {r : Int32} {σ1 : nS} (h : fX5_hasThen x1 x2 σ = some (r, σ1)) : nMi l D B yX5_hasThen wsX5_hasThen rmX5_hasThen [.ref (na B 0), .int x1, .int x2] σ r σ1 := by
  refine nmet (cc := cX5_hasThen) (maxL := 3) (ret := (some .int)) (own := RX5) (av := [.ref (na B 0), .int x1, .int x2]) (nQi D B r σ1) hB (by decide) rfl rfl (Nat.le_of_ble_eq_true rfl) (fun p e s m args below meth c C0 hr => ?_)
  have hh0 : ∀ w ∈ wsX50, w ∈ wsX5_hasThen := by decide +kernel
  have hh1 := C0.2.2.2.2.1 (Cond.fieldLink RX5 10 "NotInTheCoin" "now" "LNotInTheCoin$Town;") (by decide +kernel)
  have hh2 := C0.2.2.2.2.1 (Cond.fieldLink RX5 16 "NotInTheCoin" "mind" "LNotInTheCoin$Town;") (by decide +kernel)
  have hh3 : ∀ w ∈ wsX40, w ∈ wsX5_hasThen := by decide +kernel
  have hh4 := C0.2.2.2.2.1 (Cond.fieldLink RX5 93 "NotInTheCoin$Town" "ownerOf" "[I") (by decide +kernel)
  refine nx_lv (lv' := [(0, .ref (na B 0)), (1, .int x1), (2, .int x2)]) [0, 1, 2] rfl ?_
  rw [fX5_hasThen] at h
  refine nx_aload_n C0 0 dX5_hasThen_0 rfl ?_
  refine nx_gX5_now C0 hh0 hh1 dX5_hasThen_1 ?_
  refine nx_iload_n C0 1 dX5_hasThen_4 rfl ?_
  obtain ⟨r2, c1, h⟩ := nbind h
  refine nx_cVi (ci := 4) (n := 1) (As := [.int x1]) (st := []) C0 (mX4_isGoods l D B hB nT1 x1 σ c1) gX5_hasThen_X4_isGoods rfl rfl rfl ndX4_isGoods ⟨Nat.le_of_ble_eq_true rfl, Nat.le_of_ble_eq_true rfl⟩ (by have := nT_lt nT1; omega) (nT_e nT1 _) rfl rfl rfl (Nat.le_of_ble_eq_true rfl) rfl dX5_hasThen_5 ?_
  refine nx_if_eq (tgt := 21) C0 dX5_hasThen_8 (by decide) (fun q => ?_) (fun q => ?_)
  · have h := nift q h
    refine nx_iconst (v := -1) C0 dX5_hasThen_21 (by decide) ?_
    exact nr_i2 C0 hr dX5_hasThen_22 h
  · have h := niff q h
    refine nx_iload_n C0 2 dX5_hasThen_11 rfl ?_
    refine nx_if_lt (tgt := 21) C0 dX5_hasThen_12 (by decide) (fun q => ?_) (fun q => ?_)
    · have h := nift q h
      refine nx_iconst (v := -1) C0 dX5_hasThen_21 (by decide) ?_
      exact nr_i2 C0 hr dX5_hasThen_22 h
    · have h := niff q h
      refine nx_iload_n C0 2 dX5_hasThen_15 rfl ?_
      refine nx_bipush (v := 60) C0 dX5_hasThen_16 (by decide) ?_
      refine nx_icmp_le (tgt := 23) C0 dX5_hasThen_18 (by decide) (fun q => ?_) (fun q => ?_)
      · have h := nift q h
        refine nx_aload_n C0 0 dX5_hasThen_23 rfl ?_
        refine nx_iload_n C0 2 dX5_hasThen_24 rfl ?_
        obtain ⟨r4, t5, c3, h⟩ := nbind2 h
        refine nx_cVv (ci := 5) (n := 1) (As := [.int x2]) (st := []) C0 (mX5_imagineWeeks l D B hB x2 σ c3) gX5_hasThen_X5_imagineWeeks rfl rfl rfl ndX5_imagineWeeks ⟨Nat.le_of_ble_eq_true rfl, Nat.le_of_ble_eq_true rfl⟩ (by decide) rfl rfl rfl rfl (Nat.le_of_ble_eq_true rfl) rfl dX5_hasThen_25 ?_
        refine nx_aload_n C0 0 dX5_hasThen_28 rfl ?_
        refine nx_gX5_mind C0 hh0 hh2 dX5_hasThen_29 ?_
        refine nx_gX4_ownerOf C0 nT10 hh3 hh4 dX5_hasThen_32 ?_
        refine nx_iload_n C0 1 dX5_hasThen_35 rfl ?_
        obtain ⟨g6, h⟩ := nguard h
        refine nx_iald C0 (nT_a3 nT10) g6 dX5_hasThen_36 ?_
        exact nr_i2 C0 hr dX5_hasThen_37 h
      · have h := niff q h
        refine nx_iconst (v := -1) C0 dX5_hasThen_21 (by decide) ?_
        exact nr_i2 C0 hr dX5_hasThen_22 h
def rmX5_openThen : Room := { frames := 5, cells := 0, slots := 0, locals := 121 }
theorem ndX5_openThen : yX5_openThen.cls = RX5 ∧ yX5_openThen.cls ≠ "java/lang/invoke/MethodHandle" ∧ yX5_openThen.cls ≠ "java/lang/invoke/VarHandle" ∧ (parseMethodDescriptor yX5_openThen.desc).map (fun d => d.parameters.length) = some 1 := by decide +kernel
set_option maxRecDepth 100000 in
set_option maxHeartbeats 4000000 in
theorem mX5_openThen (l : Launch) (D : va_G) (B : nBT) (hB : nInj B) (x1 : Int32) (σ : nS) {r : Int32} {σ1 : nS} (h : fX5_openThen x1 σ = some (r, σ1)) : nMi l D B yX5_openThen wsX5_openThen rmX5_openThen [.ref (na B 0), .int x1] σ r σ1 := by
  refine nmet (cc := cX5_openThen) (maxL := 2) (ret := (some .int)) (own := RX5) (av := [.ref (na B 0), .int x1]) (nQi D B r σ1) hB (by decide) rfl rfl (Nat.le_of_ble_eq_true rfl) (fun p e s m args below meth c C0 hr => ?_)
  have hh0 : ∀ w ∈ wsX50, w ∈ wsX5_openThen := by decide +kernel
  have hh1 := C0.2.2.2.2.1 (Cond.fieldLink RX5 16 "NotInTheCoin" "mind" "LNotInTheCoin$Town;") (by decide +kernel)
  have hh2 : ∀ w ∈ wsX40, w ∈ wsX5_openThen := by decide +kernel
  have hh3 := C0.2.2.2.2.1 (Cond.fieldLink RX5 123 "NotInTheCoin$Town" "open" "I") (by decide +kernel)
  refine nx_lv (lv' := [(0, .ref (na B 0)), (1, .int x1)]) [0, 1] rfl ?_
  rw [fX5_openThen] at h
  refine nx_iload_n C0 1 dX5_openThen_0 rfl ?_
  refine nx_if_lt (tgt := 10) C0 dX5_openThen_1 (by decide) (fun q => ?_) (fun q => ?_)
  · have h := nift q h
    refine nx_iconst (v := -1) C0 dX5_openThen_10 (by decide) ?_
    exact nr_i2 C0 hr dX5_openThen_11 h
  · have h := niff q h
    refine nx_iload_n C0 1 dX5_openThen_4 rfl ?_
    refine nx_bipush (v := 60) C0 dX5_openThen_5 (by decide) ?_
    refine nx_icmp_le (tgt := 12) C0 dX5_openThen_7 (by decide) (fun q => ?_) (fun q => ?_)
    · have h := nift q h
      refine nx_aload_n C0 0 dX5_openThen_12 rfl ?_
      refine nx_iload_n C0 1 dX5_openThen_13 rfl ?_
      obtain ⟨r2, t3, c1, h⟩ := nbind2 h
      refine nx_cVv (ci := 5) (n := 1) (As := [.int x1]) (st := []) C0 (mX5_imagineWeeks l D B hB x1 σ c1) gX5_openThen_X5_imagineWeeks rfl rfl rfl ndX5_imagineWeeks ⟨Nat.le_of_ble_eq_true rfl, Nat.le_of_ble_eq_true rfl⟩ (by decide) rfl rfl rfl rfl (Nat.le_of_ble_eq_true rfl) rfl dX5_openThen_14 ?_
      refine nx_aload_n C0 0 dX5_openThen_17 rfl ?_
      refine nx_gX5_mind C0 hh0 hh1 dX5_openThen_18 ?_
      refine nx_gX4_open C0 nT10 hh2 hh3 dX5_openThen_21 ?_
      obtain ⟨r5, c4, h⟩ := nbind h
      refine nx_cSi (n := 1) (As := [.int (t3 10 10)]) (st := []) C0 (mJ6_bitCount_0f7a4 l D B hB (t3 10 10) t3 c4) gX5_openThen_J6_bitCount_0f7a4 rfl rfl rfl ndJ6_bitCount_0f7a4 ⟨Nat.le_of_ble_eq_true rfl, Nat.le_of_ble_eq_true rfl⟩ rfl (Nat.le_of_ble_eq_true rfl) rfl dX5_openThen_24 ?_
      exact nr_i2 C0 hr dX5_openThen_27 h
    · have h := niff q h
      refine nx_iconst (v := -1) C0 dX5_openThen_10 (by decide) ?_
      exact nr_i2 C0 hr dX5_openThen_11 h
def rmX5_cleared : Room := { frames := 4, cells := 0, slots := 0, locals := 99 }
theorem ndX5_cleared : yX5_cleared.cls = RX5 ∧ yX5_cleared.cls ≠ "java/lang/invoke/MethodHandle" ∧ yX5_cleared.cls ≠ "java/lang/invoke/VarHandle" ∧ (parseMethodDescriptor yX5_cleared.desc).map (fun d => d.parameters.length) = some 0 := by decide +kernel
set_option maxRecDepth 100000 in
set_option maxHeartbeats 4000000 in
theorem mX5_cleared (l : Launch) (D : va_G) (B : nBT) (hB : nInj B)  (σ : nS) {r : Int32} {σ1 : nS} (h : fX5_cleared σ = some (r, σ1)) : nMi l D B yX5_cleared wsX5_cleared rmX5_cleared [.ref (na B 0)] σ r σ1 := by
  refine nmet (cc := cX5_cleared) (maxL := 2) (ret := (some .int)) (own := RX5) (av := [.ref (na B 0)]) (nQi D B r σ1) hB (by decide) rfl rfl (Nat.le_of_ble_eq_true rfl) (fun p e s m args below meth c C0 hr => ?_)
  have hh0 : ∀ w ∈ wsX50, w ∈ wsX5_cleared := by decide +kernel
  have hh1 := C0.2.2.2.2.1 (Cond.fieldLink RX5 16 "NotInTheCoin" "mind" "LNotInTheCoin$Town;") (by decide +kernel)
  have hh2 : ∀ w ∈ wsX40, w ∈ wsX5_cleared := by decide +kernel
  have hh3 := C0.2.2.2.2.1 (Cond.fieldLink RX5 123 "NotInTheCoin$Town" "open" "I") (by decide +kernel)
  have hh4 := C0.2.2.2.2.1 (Cond.fieldLink RX5 10 "NotInTheCoin" "now" "LNotInTheCoin$Town;") (by decide +kernel)
  have hfX5_cleared_b13 : ∀  (n : Nat) (a1 : Int32) (σ : nS) (h : fX5_cleared_b13  n a1 σ = some (r, σ1)), nJ p l e rmX5_cleared s m args below meth c 0 0 (MQ below (nQi D B r σ1 s.heap.size) args s 0 0 (nA B s.heap.size)) D B 2 13 [(0, .ref (na B 0)), (1, .int a1)] [] σ := by
    intro  n
    induction n with
    | zero => intro a1 σ h; cases h
    | succ n ih =>
        intro a1 σ h
        rw [fX5_cleared_b13] at h
        refine nx_iload_n C0 1 dX5_cleared_13 rfl ?_
        refine nx_bipush (v := 60) C0 dX5_cleared_14 (by decide) ?_
        refine nx_icmp_gt (tgt := 44) C0 dX5_cleared_16 (by decide) (fun q => ?_) (fun q => ?_)
        · have h := nift q h
          refine nx_bipush (v := -4) C0 dX5_cleared_44 (by decide) ?_
          exact nr_i2 C0 hr dX5_cleared_46 h
        · have h := niff q h
          refine nx_aload_n C0 0 dX5_cleared_19 rfl ?_
          refine nx_gX5_mind C0 hh0 hh1 dX5_cleared_20 ?_
          refine nx_gX4_open C0 nT10 hh2 hh3 dX5_cleared_23 ?_
          refine nx_if_ne (tgt := 31) C0 dX5_cleared_26 (by decide) (fun q => ?_) (fun q => ?_)
          · have h := niff q h
            refine nx_aload_n C0 0 dX5_cleared_31 rfl ?_
            refine nx_gX5_mind C0 hh0 hh1 dX5_cleared_32 ?_
            obtain ⟨r2, t3, c1, h⟩ := nbind2 h
            refine nx_cVv (ci := 4) (n := 0) (As := []) (st := []) C0 (mX4_passWeek l D B hB nT10 σ c1) gX5_cleared_X4_passWeek rfl rfl rfl ndX4_passWeek ⟨Nat.le_of_ble_eq_true rfl, Nat.le_of_ble_eq_true rfl⟩ (by have := nT_lt nT10; omega) (nT_e nT10 _) rfl rfl rfl (Nat.le_of_ble_eq_true rfl) rfl dX5_cleared_35 ?_
            obtain ⟨v4, ev4, h⟩ := nlet h
            refine nx_iinc (v := v4) (lv' := [(1, .int v4), (0, .ref (na B 0))]) C0 1 dX5_cleared_38 rfl ev4 (by decide) rfl ?_
            refine nx_goto (tgt := 13) C0 dX5_cleared_41 (by decide) ?_
            refine nx_lv (lv' := [(0, .ref (na B 0)), (1, .int v4)]) [1, 0] rfl ?_
            exact ih v4 t3 h
          · have h := nift q h
            refine nx_iload_n C0 1 dX5_cleared_29 rfl ?_
            exact nr_i2 C0 hr dX5_cleared_30 h
  refine nx_lv (lv' := [(0, .ref (na B 0))]) [0] rfl ?_
  rw [fX5_cleared] at h
  refine nx_aload_n C0 0 dX5_cleared_0 rfl ?_
  refine nx_gX5_mind C0 hh0 hh1 dX5_cleared_1 ?_
  refine nx_aload_n C0 0 dX5_cleared_4 rfl ?_
  refine nx_gX5_now C0 hh0 hh4 dX5_cleared_5 ?_
  obtain ⟨r6, t7, c5, h⟩ := nbind2 h
  refine nx_cVv (ci := 4) (n := 1) (As := [.ref (na B 1)]) (st := []) C0 (mX4_become l D B hB nT10 nT1 σ c5) gX5_cleared_X4_become rfl rfl rfl ndX4_become ⟨Nat.le_of_ble_eq_true rfl, Nat.le_of_ble_eq_true rfl⟩ (by have := nT_lt nT10; omega) (nT_e nT10 _) rfl rfl rfl (Nat.le_of_ble_eq_true rfl) rfl dX5_cleared_8 ?_
  refine nx_iconst (v := 0) C0 dX5_cleared_11 (by decide) ?_
  refine nx_istore_n (i := 1) (y := (0 : Int32)) (lv' := [(1, .int (0 : Int32)), (0, .ref (na B 0))]) C0 dX5_cleared_12 rfl (by decide) rfl rfl ?_
  refine nx_lv (lv' := [(0, .ref (na B 0)), (1, .int (0 : Int32))]) [1, 0] rfl ?_
  exact hfX5_cleared_b13 4096 (0 : Int32) t7 h
def rmX5_richest : Room := { frames := 3, cells := 0, slots := 0, locals := 73 }
theorem ndX5_richest : yX5_richest.cls = RX5 ∧ yX5_richest.cls ≠ "java/lang/invoke/MethodHandle" ∧ yX5_richest.cls ≠ "java/lang/invoke/VarHandle" ∧ (parseMethodDescriptor yX5_richest.desc).map (fun d => d.parameters.length) = some 0 := by decide +kernel
set_option maxRecDepth 100000 in
set_option maxHeartbeats 4000000 in
theorem mX5_richest (l : Launch) (D : va_G) (B : nBT) (hB : nInj B)  (σ : nS) {r : Int32}  (h : fX5_richest σ = some r) : nMi l D B yX5_richest wsX5_richest rmX5_richest [.ref (na B 0)] σ r σ := by
  refine nmet (cc := cX5_richest) (maxL := 5) (ret := (some .int)) (own := RX5) (av := [.ref (na B 0)]) (nQi D B r σ) hB (by decide) rfl rfl (Nat.le_of_ble_eq_true rfl) (fun p e s m args below meth c C0 hr => ?_)
  have hh0 : ∀ w ∈ wsX50, w ∈ wsX5_richest := by decide +kernel
  have hh1 := C0.2.2.2.2.1 (Cond.fieldLink RX5 10 "NotInTheCoin" "now" "LNotInTheCoin$Town;") (by decide +kernel)
  have hh2 : ∀ w ∈ wsX40, w ∈ wsX5_richest := by decide +kernel
  have hh3 := C0.2.2.2.2.1 (Cond.fieldLink RX5 185 "NotInTheCoin$Town" "people" "I") (by decide +kernel)
  have hfX5_richest_b7 : ∀  (n : Nat) (a1 : Int32) (a2 : Int32) (a3 : Int32) (h : fX5_richest_b7  n a1 a2 a3 σ = some r), nJ p l e rmX5_richest s m args below meth c 0 0 (MQ below (nQi D B r σ s.heap.size) args s 0 0 (nA B s.heap.size)) D B 5 7 [(0, .ref (na B 0)), (1, .int a1), (2, .int a2), (3, .int a3)] [] σ := by
    intro  n
    induction n with
    | zero => intro a1 a2 a3 h; cases h
    | succ n ih =>
        intro a1 a2 a3 h
        rw [fX5_richest_b7] at h
        refine nx_iload_n C0 3 dX5_richest_7 rfl ?_
        refine nx_aload_n C0 0 dX5_richest_8 rfl ?_
        refine nx_gX5_now C0 hh0 hh1 dX5_richest_9 ?_
        refine nx_gX4_people C0 nT1 hh2 hh3 dX5_richest_12 ?_
        refine nx_icmp_ge (tgt := 45) C0 dX5_richest_15 (by decide) (fun q => ?_) (fun q => ?_)
        · have h := nift q h
          refine nx_iload_n C0 1 dX5_richest_45 rfl ?_
          exact nr_i C0 hr dX5_richest_46 h
        · have h := niff q h
          refine nx_aload_n C0 0 dX5_richest_18 rfl ?_
          refine nx_gX5_now C0 hh0 hh1 dX5_richest_19 ?_
          refine nx_iload_n C0 3 dX5_richest_22 rfl ?_
          obtain ⟨r2, c1, h⟩ := nbind h
          refine nx_cVi (ci := 4) (n := 1) (As := [.int a3]) (st := []) C0 (mX4_wealth l D B hB nT1 a3 σ c1) gX5_richest_X4_wealth rfl rfl rfl ndX4_wealth ⟨Nat.le_of_ble_eq_true rfl, Nat.le_of_ble_eq_true rfl⟩ (by have := nT_lt nT1; omega) (nT_e nT1 _) rfl rfl rfl (Nat.le_of_ble_eq_true rfl) rfl dX5_richest_23 ?_
          refine nx_istore (i := 4) (y := r2) (lv' := [(4, .int r2), (0, .ref (na B 0)), (1, .int a1), (2, .int a2), (3, .int a3)]) C0 dX5_richest_26 (by decide) rfl rfl ?_
          refine nx_iload C0 0 dX5_richest_28 rfl ?_
          refine nx_iload_n C0 3 dX5_richest_30 rfl ?_
          refine nx_icmp_le (tgt := 39) C0 dX5_richest_31 (by decide) (fun q => ?_) (fun q => ?_)
          · have h := nift q h
            obtain ⟨v3, ev3, h⟩ := nlet h
            refine nx_iinc (v := v3) (lv' := [(3, .int v3), (4, .int r2), (0, .ref (na B 0)), (1, .int a1), (2, .int a2)]) C0 4 dX5_richest_39 rfl ev3 (by decide) rfl ?_
            refine nx_goto (tgt := 7) C0 dX5_richest_42 (by decide) ?_
            refine nx_lv (lv' := [(0, .ref (na B 0)), (1, .int a1), (2, .int a2), (3, .int v3)]) [2, 3, 4, 0] rfl ?_
            exact ih a1 a2 v3 h
          · have h := niff q h
            refine nx_iload_n C0 4 dX5_richest_34 rfl ?_
            refine nx_istore_n (i := 1) (y := a3) (lv' := [(1, .int a3), (4, .int r2), (0, .ref (na B 0)), (2, .int a2), (3, .int a3)]) C0 dX5_richest_35 rfl (by decide) rfl rfl ?_
            refine nx_iload C0 1 dX5_richest_36 rfl ?_
            refine nx_istore_n (i := 2) (y := r2) (lv' := [(2, .int r2), (1, .int a3), (4, .int r2), (0, .ref (na B 0)), (3, .int a3)]) C0 dX5_richest_38 rfl (by decide) rfl rfl ?_
            obtain ⟨v4, ev4, h⟩ := nlet h
            refine nx_iinc (v := v4) (lv' := [(3, .int v4), (2, .int r2), (1, .int a3), (4, .int r2), (0, .ref (na B 0))]) C0 4 dX5_richest_39 rfl ev4 (by decide) rfl ?_
            refine nx_goto (tgt := 7) C0 dX5_richest_42 (by decide) ?_
            refine nx_lv (lv' := [(0, .ref (na B 0)), (1, .int a3), (2, .int r2), (3, .int v4)]) [4, 2, 1, 0] rfl ?_
            exact ih a3 r2 v4 h
  refine nx_lv (lv' := [(0, .ref (na B 0))]) [0] rfl ?_
  rw [fX5_richest] at h
  refine nx_bipush (v := -4) C0 dX5_richest_0 (by decide) ?_
  refine nx_istore_n (i := 1) (y := (-4 : Int32)) (lv' := [(1, .int (-4 : Int32)), (0, .ref (na B 0))]) C0 dX5_richest_2 rfl (by decide) rfl rfl ?_
  refine nx_iconst (v := -1) C0 dX5_richest_3 (by decide) ?_
  refine nx_istore_n (i := 2) (y := (-1 : Int32)) (lv' := [(2, .int (-1 : Int32)), (1, .int (-4 : Int32)), (0, .ref (na B 0))]) C0 dX5_richest_4 rfl (by decide) rfl rfl ?_
  refine nx_iconst (v := 0) C0 dX5_richest_5 (by decide) ?_
  refine nx_istore_n (i := 3) (y := (0 : Int32)) (lv' := [(3, .int (0 : Int32)), (2, .int (-1 : Int32)), (1, .int (-4 : Int32)), (0, .ref (na B 0))]) C0 dX5_richest_6 rfl (by decide) rfl rfl ?_
  refine nx_lv (lv' := [(0, .ref (na B 0)), (1, .int (-4 : Int32)), (2, .int (-1 : Int32)), (3, .int (0 : Int32))]) [3, 2, 1, 0] rfl ?_
  exact hfX5_richest_b7 4096 (-4 : Int32) (-1 : Int32) (0 : Int32) h
def rmX5_worst : Room := { frames := 3, cells := 0, slots := 0, locals := 77 }
theorem ndX5_worst : yX5_worst.cls = RX5 ∧ yX5_worst.cls ≠ "java/lang/invoke/MethodHandle" ∧ yX5_worst.cls ≠ "java/lang/invoke/VarHandle" ∧ (parseMethodDescriptor yX5_worst.desc).map (fun d => d.parameters.length) = some 1 := by decide +kernel
set_option maxRecDepth 100000 in
set_option maxHeartbeats 4000000 in
theorem mX5_worst (l : Launch) (D : va_G) (B : nBT) (hB : nInj B) (x1 : Int32) (σ : nS) {r : Int32}  (h : fX5_worst x1 σ = some r) : nMi l D B yX5_worst wsX5_worst rmX5_worst [.ref (na B 0), .int x1] σ r σ := by
  refine nmet (cc := cX5_worst) (maxL := 2) (ret := (some .int)) (own := RX5) (av := [.ref (na B 0), .int x1]) (nQi D B r σ) hB (by decide) rfl rfl (Nat.le_of_ble_eq_true rfl) (fun p e s m args below meth c C0 hr => ?_)
  have hh0 : ∀ w ∈ wsX50, w ∈ wsX5_worst := by decide +kernel
  have hh1 := C0.2.2.2.2.1 (Cond.fieldLink RX5 10 "NotInTheCoin" "now" "LNotInTheCoin$Town;") (by decide +kernel)
  refine nx_lv (lv' := [(0, .ref (na B 0)), (1, .int x1)]) [0, 1] rfl ?_
  rw [fX5_worst] at h
  refine nx_aload_n C0 0 dX5_worst_0 rfl ?_
  refine nx_gX5_now C0 hh0 hh1 dX5_worst_1 ?_
  refine nx_iload_n C0 1 dX5_worst_4 rfl ?_
  obtain ⟨r2, c1, h⟩ := nbind h
  refine nx_cVi (ci := 4) (n := 1) (As := [.int x1]) (st := []) C0 (mX4_isPerson l D B hB nT1 x1 σ c1) gX5_worst_X4_isPerson rfl rfl rfl ndX4_isPerson ⟨Nat.le_of_ble_eq_true rfl, Nat.le_of_ble_eq_true rfl⟩ (by have := nT_lt nT1; omega) (nT_e nT1 _) rfl rfl rfl (Nat.le_of_ble_eq_true rfl) rfl dX5_worst_5 ?_
  refine nx_if_ne (tgt := 13) C0 dX5_worst_8 (by decide) (fun q => ?_) (fun q => ?_)
  · have h := niff q h
    refine nx_aload_n C0 0 dX5_worst_13 rfl ?_
    refine nx_gX5_now C0 hh0 hh1 dX5_worst_14 ?_
    refine nx_iload_n C0 1 dX5_worst_17 rfl ?_
    refine nx_aload_n C0 0 dX5_worst_18 rfl ?_
    refine nx_gX5_now C0 hh0 hh1 dX5_worst_19 ?_
    refine nx_iload_n C0 1 dX5_worst_22 rfl ?_
    obtain ⟨r4, c3, h⟩ := nbind h
    refine nx_cVi (ci := 4) (n := 1) (As := [.int x1]) (st := [.int x1, .ref (na B 1)]) C0 (mX4_goodsHad l D B hB nT1 x1 σ c3) gX5_worst_X4_goodsHad rfl rfl rfl ndX4_goodsHad ⟨Nat.le_of_ble_eq_true rfl, Nat.le_of_ble_eq_true rfl⟩ (by have := nT_lt nT1; omega) (nT_e nT1 _) rfl rfl rfl (Nat.le_of_ble_eq_true rfl) rfl dX5_worst_23 ?_
    refine nx_iconst (v := -1) C0 dX5_worst_26 (by decide) ?_
    obtain ⟨r6, c5, h⟩ := nbind h
    refine nx_cVi (ci := 4) (n := 3) (As := [.int x1, .int r4, .int (-1 : Int32)]) (st := []) C0 (mX4_choice l D B hB nT1 x1 r4 (-1 : Int32) σ c5) gX5_worst_X4_choice rfl rfl rfl ndX4_choice ⟨Nat.le_of_ble_eq_true rfl, Nat.le_of_ble_eq_true rfl⟩ (by have := nT_lt nT1; omega) (nT_e nT1 _) rfl rfl rfl (Nat.le_of_ble_eq_true rfl) rfl dX5_worst_27 ?_
    exact nr_i C0 hr dX5_worst_30 h
  · have h := nift q h
    refine nx_iconst (v := -1) C0 dX5_worst_11 (by decide) ?_
    exact nr_i C0 hr dX5_worst_12 h
def rmX5_chain : Room := { frames := 3, cells := 0, slots := 0, locals := 78 }
theorem ndX5_chain : yX5_chain.cls = RX5 ∧ yX5_chain.cls ≠ "java/lang/invoke/MethodHandle" ∧ yX5_chain.cls ≠ "java/lang/invoke/VarHandle" ∧ (parseMethodDescriptor yX5_chain.desc).map (fun d => d.parameters.length) = some 4 := by decide +kernel
set_option maxRecDepth 100000 in
set_option maxHeartbeats 4000000 in
theorem mX5_chain (l : Launch) (D : va_G) (B : nBT) (hB : nInj B) (x1 : Int32) (x2 : Int32) (x3 : Int32) (x4 : Int32) (σ : nS) {r : Int32} {σ1 : nS} (h : fX5_chain x1 x2 x3 x4 σ = some (r, σ1)) : nMi l D B yX5_chain wsX5_chain rmX5_chain [.ref (na B 0), .int x1, .int x2, .int x3, .int x4] σ r σ1 := by
  refine nmet (cc := cX5_chain) (maxL := 5) (ret := (some .int)) (own := RX5) (av := [.ref (na B 0), .int x1, .int x2, .int x3, .int x4]) (nQi D B r σ1) hB (by decide) rfl rfl (Nat.le_of_ble_eq_true rfl) (fun p e s m args below meth c C0 hr => ?_)
  have hh0 : ∀ w ∈ wsX50, w ∈ wsX5_chain := by decide +kernel
  have hh1 := C0.2.2.2.2.1 (Cond.fieldLink RX5 10 "NotInTheCoin" "now" "LNotInTheCoin$Town;") (by decide +kernel)
  have hh2 := C0.2.2.2.2.1 (Cond.fieldLink RX5 32 "NotInTheCoin" "steps" "LNotInTheCoin$Steps;") (by decide +kernel)
  have hh3 : ∀ w ∈ wsX30, w ∈ wsX5_chain := by decide +kernel
  have hh4 := C0.2.2.2.2.1 (Cond.fieldLink RX5 195 "NotInTheCoin$Steps" "left" "[I") (by decide +kernel)
  refine nx_lv (lv' := [(0, .ref (na B 0)), (1, .int x1), (2, .int x2), (3, .int x3), (4, .int x4)]) [0, 1, 2, 3, 4] rfl ?_
  rw [fX5_chain] at h
  refine nx_aload_n C0 0 dX5_chain_0 rfl ?_
  refine nx_gX5_now C0 hh0 hh1 dX5_chain_1 ?_
  refine nx_iload_n C0 1 dX5_chain_4 rfl ?_
  obtain ⟨r2, c1, h⟩ := nbind h
  refine nx_cVi (ci := 4) (n := 1) (As := [.int x1]) (st := []) C0 (mX4_isPerson l D B hB nT1 x1 σ c1) gX5_chain_X4_isPerson rfl rfl rfl ndX4_isPerson ⟨Nat.le_of_ble_eq_true rfl, Nat.le_of_ble_eq_true rfl⟩ (by have := nT_lt nT1; omega) (nT_e nT1 _) rfl rfl rfl (Nat.le_of_ble_eq_true rfl) rfl dX5_chain_5 ?_
  refine nx_if_eq (tgt := 44) C0 dX5_chain_8 (by decide) (fun q => ?_) (fun q => ?_)
  · have h := nift q h
    refine nx_iconst (v := -1) C0 dX5_chain_44 (by decide) ?_
    exact nr_i2 C0 hr dX5_chain_45 h
  · have h := niff q h
    refine nx_aload_n C0 0 dX5_chain_11 rfl ?_
    refine nx_gX5_now C0 hh0 hh1 dX5_chain_12 ?_
    refine nx_iload_n C0 2 dX5_chain_15 rfl ?_
    obtain ⟨r4, c3, h⟩ := nbind h
    refine nx_cVi (ci := 4) (n := 1) (As := [.int x2]) (st := []) C0 (mX4_isGoods l D B hB nT1 x2 σ c3) gX5_chain_X4_isGoods rfl rfl rfl ndX4_isGoods ⟨Nat.le_of_ble_eq_true rfl, Nat.le_of_ble_eq_true rfl⟩ (by have := nT_lt nT1; omega) (nT_e nT1 _) rfl rfl rfl (Nat.le_of_ble_eq_true rfl) rfl dX5_chain_16 ?_
    refine nx_if_eq (tgt := 44) C0 dX5_chain_19 (by decide) (fun q => ?_) (fun q => ?_)
    · have h := nift q h
      refine nx_iconst (v := -1) C0 dX5_chain_44 (by decide) ?_
      exact nr_i2 C0 hr dX5_chain_45 h
    · have h := niff q h
      refine nx_aload_n C0 0 dX5_chain_22 rfl ?_
      refine nx_gX5_now C0 hh0 hh1 dX5_chain_23 ?_
      refine nx_iload_n C0 3 dX5_chain_26 rfl ?_
      obtain ⟨r6, c5, h⟩ := nbind h
      refine nx_cVi (ci := 4) (n := 1) (As := [.int x3]) (st := []) C0 (mX4_isGoods l D B hB nT1 x3 σ c5) gX5_chain_X4_isGoods rfl rfl rfl ndX4_isGoods ⟨Nat.le_of_ble_eq_true rfl, Nat.le_of_ble_eq_true rfl⟩ (by have := nT_lt nT1; omega) (nT_e nT1 _) rfl rfl rfl (Nat.le_of_ble_eq_true rfl) rfl dX5_chain_27 ?_
      refine nx_if_eq (tgt := 44) C0 dX5_chain_30 (by decide) (fun q => ?_) (fun q => ?_)
      · have h := nift q h
        refine nx_iconst (v := -1) C0 dX5_chain_44 (by decide) ?_
        exact nr_i2 C0 hr dX5_chain_45 h
      · have h := niff q h
        refine nx_iload C0 4 dX5_chain_33 rfl ?_
        refine nx_if_lt (tgt := 44) C0 dX5_chain_35 (by decide) (fun q => ?_) (fun q => ?_)
        · have h := nift q h
          refine nx_iconst (v := -1) C0 dX5_chain_44 (by decide) ?_
          exact nr_i2 C0 hr dX5_chain_45 h
        · have h := niff q h
          refine nx_iload C0 4 dX5_chain_38 rfl ?_
          refine nx_iconst (v := 1) C0 dX5_chain_40 (by decide) ?_
          refine nx_icmp_le (tgt := 46) C0 dX5_chain_41 (by decide) (fun q => ?_) (fun q => ?_)
          · have h := nift q h
            refine nx_aload_n C0 0 dX5_chain_46 rfl ?_
            refine nx_gX5_steps C0 hh0 hh2 dX5_chain_47 ?_
            refine nx_aload_n C0 0 dX5_chain_50 rfl ?_
            refine nx_gX5_now C0 hh0 hh1 dX5_chain_51 ?_
            refine nx_iload_n C0 1 dX5_chain_54 rfl ?_
            obtain ⟨r8, t9, c7, h⟩ := nbind2 h
            refine nx_cVv (ci := 3) (n := 2) (As := [.ref (na B 1), .int x1]) (st := []) C0 (mX3_look l D B hB nT1 x1 σ c7) gX5_chain_X3_look rfl rfl rfl ndX3_look ⟨Nat.le_of_ble_eq_true rfl, Nat.le_of_ble_eq_true rfl⟩ (by decide) rfl rfl rfl rfl (Nat.le_of_ble_eq_true rfl) rfl dX5_chain_55 ?_
            refine nx_aload_n C0 0 dX5_chain_58 rfl ?_
            refine nx_gX5_steps C0 hh0 hh2 dX5_chain_59 ?_
            refine nx_iload_n C0 3 dX5_chain_62 rfl ?_
            obtain ⟨r11, t12, c10, h⟩ := nbind2 h
            refine nx_cVv (ci := 3) (n := 1) (As := [.int x3]) (st := []) C0 (mX3_countTo l D B hB x3 t9 c10) gX5_chain_X3_countTo rfl rfl rfl ndX3_countTo ⟨Nat.le_of_ble_eq_true rfl, Nat.le_of_ble_eq_true rfl⟩ (by decide) rfl rfl rfl rfl (Nat.le_of_ble_eq_true rfl) rfl dX5_chain_63 ?_
            refine nx_iload C0 4 dX5_chain_66 rfl ?_
            refine nx_if_ne (tgt := 83) C0 dX5_chain_68 (by decide) (fun q => ?_) (fun q => ?_)
            · have h := niff q h
              refine nx_aload_n C0 0 dX5_chain_83 rfl ?_
              refine nx_gX5_steps C0 hh0 hh2 dX5_chain_84 ?_
              refine nx_iload_n C0 2 dX5_chain_87 rfl ?_
              obtain ⟨r14, c13, h⟩ := nbind h
              refine nx_cVi (ci := 3) (n := 1) (As := [.int x2]) (st := []) C0 (mX3_firstFrom l D B hB x2 t12 c13) gX5_chain_X3_firstFrom rfl rfl rfl ndX3_firstFrom ⟨Nat.le_of_ble_eq_true rfl, Nat.le_of_ble_eq_true rfl⟩ (by decide) rfl rfl rfl rfl (Nat.le_of_ble_eq_true rfl) rfl dX5_chain_88 ?_
              exact nr_i2 C0 hr dX5_chain_91 h
            · have h := nift q h
              refine nx_aload_n C0 0 dX5_chain_71 rfl ?_
              refine nx_gX5_steps C0 hh0 hh2 dX5_chain_72 ?_
              refine nx_gX3_left C0 hh3 hh4 dX5_chain_75 ?_
              refine nx_iload_n C0 2 dX5_chain_78 rfl ?_
              obtain ⟨g15, h⟩ := nguard h
              refine nx_iald C0 nI_47 g15 dX5_chain_79 ?_
              refine nx_goto (tgt := 91) C0 dX5_chain_80 (by decide) ?_
              exact nr_i2 C0 hr dX5_chain_91 h
          · have h := niff q h
            refine nx_iconst (v := -1) C0 dX5_chain_44 (by decide) ?_
            exact nr_i2 C0 hr dX5_chain_45 h
def rmX5_climb : Room := { frames := 3, cells := 0, slots := 0, locals := 78 }
theorem ndX5_climb : yX5_climb.cls = RX5 ∧ yX5_climb.cls ≠ "java/lang/invoke/MethodHandle" ∧ yX5_climb.cls ≠ "java/lang/invoke/VarHandle" ∧ (parseMethodDescriptor yX5_climb.desc).map (fun d => d.parameters.length) = some 2 := by decide +kernel
set_option maxRecDepth 100000 in
set_option maxHeartbeats 4000000 in
theorem mX5_climb (l : Launch) (D : va_G) (B : nBT) (hB : nInj B) (x1 : Int32) (x2 : Int32) (σ : nS) {r : Int32} {σ1 : nS} (h : fX5_climb x1 x2 σ = some (r, σ1)) : nMi l D B yX5_climb wsX5_climb rmX5_climb [.ref (na B 0), .int x1, .int x2] σ r σ1 := by
  refine nmet (cc := cX5_climb) (maxL := 4) (ret := (some .int)) (own := RX5) (av := [.ref (na B 0), .int x1, .int x2]) (nQi D B r σ1) hB (by decide) rfl rfl (Nat.le_of_ble_eq_true rfl) (fun p e s m args below meth c C0 hr => ?_)
  have hh0 : ∀ w ∈ wsX50, w ∈ wsX5_climb := by decide +kernel
  have hh1 := C0.2.2.2.2.1 (Cond.fieldLink RX5 10 "NotInTheCoin" "now" "LNotInTheCoin$Town;") (by decide +kernel)
  have hh2 := C0.2.2.2.2.1 (Cond.fieldLink RX5 32 "NotInTheCoin" "steps" "LNotInTheCoin$Steps;") (by decide +kernel)
  refine nx_lv (lv' := [(0, .ref (na B 0)), (1, .int x1), (2, .int x2)]) [0, 1, 2] rfl ?_
  rw [fX5_climb] at h
  refine nx_aload_n C0 0 dX5_climb_0 rfl ?_
  refine nx_gX5_now C0 hh0 hh1 dX5_climb_1 ?_
  refine nx_iload_n C0 1 dX5_climb_4 rfl ?_
  obtain ⟨r2, c1, h⟩ := nbind h
  refine nx_cVi (ci := 4) (n := 1) (As := [.int x1]) (st := []) C0 (mX4_isPerson l D B hB nT1 x1 σ c1) gX5_climb_X4_isPerson rfl rfl rfl ndX4_isPerson ⟨Nat.le_of_ble_eq_true rfl, Nat.le_of_ble_eq_true rfl⟩ (by have := nT_lt nT1; omega) (nT_e nT1 _) rfl rfl rfl (Nat.le_of_ble_eq_true rfl) rfl dX5_climb_5 ?_
  refine nx_if_eq (tgt := 22) C0 dX5_climb_8 (by decide) (fun q => ?_) (fun q => ?_)
  · have h := nift q h
    refine nx_iconst (v := -1) C0 dX5_climb_22 (by decide) ?_
    exact nr_i2 C0 hr dX5_climb_23 h
  · have h := niff q h
    refine nx_aload_n C0 0 dX5_climb_11 rfl ?_
    refine nx_gX5_now C0 hh0 hh1 dX5_climb_12 ?_
    refine nx_iload_n C0 2 dX5_climb_15 rfl ?_
    obtain ⟨r4, c3, h⟩ := nbind h
    refine nx_cVi (ci := 4) (n := 1) (As := [.int x2]) (st := []) C0 (mX4_isGoods l D B hB nT1 x2 σ c3) gX5_climb_X4_isGoods rfl rfl rfl ndX4_isGoods ⟨Nat.le_of_ble_eq_true rfl, Nat.le_of_ble_eq_true rfl⟩ (by have := nT_lt nT1; omega) (nT_e nT1 _) rfl rfl rfl (Nat.le_of_ble_eq_true rfl) rfl dX5_climb_16 ?_
    refine nx_if_ne (tgt := 24) C0 dX5_climb_19 (by decide) (fun q => ?_) (fun q => ?_)
    · have h := niff q h
      refine nx_aload_n C0 0 dX5_climb_24 rfl ?_
      refine nx_gX5_steps C0 hh0 hh2 dX5_climb_25 ?_
      refine nx_aload_n C0 0 dX5_climb_28 rfl ?_
      refine nx_gX5_now C0 hh0 hh1 dX5_climb_29 ?_
      refine nx_iload_n C0 1 dX5_climb_32 rfl ?_
      obtain ⟨r6, t7, c5, h⟩ := nbind2 h
      refine nx_cVv (ci := 3) (n := 2) (As := [.ref (na B 1), .int x1]) (st := []) C0 (mX3_look l D B hB nT1 x1 σ c5) gX5_climb_X3_look rfl rfl rfl ndX3_look ⟨Nat.le_of_ble_eq_true rfl, Nat.le_of_ble_eq_true rfl⟩ (by decide) rfl rfl rfl rfl (Nat.le_of_ble_eq_true rfl) rfl dX5_climb_33 ?_
      refine nx_aload_n C0 0 dX5_climb_36 rfl ?_
      refine nx_gX5_now C0 hh0 hh1 dX5_climb_37 ?_
      refine nx_iload_n C0 1 dX5_climb_40 rfl ?_
      refine nx_aload_n C0 0 dX5_climb_41 rfl ?_
      refine nx_gX5_steps C0 hh0 hh2 dX5_climb_42 ?_
      refine nx_iload_n C0 2 dX5_climb_45 rfl ?_
      obtain ⟨r9, c8, h⟩ := nbind h
      refine nx_cVi (ci := 3) (n := 1) (As := [.int x2]) (st := [.int x1, .ref (na B 1)]) C0 (mX3_reachedFrom l D B hB x2 t7 c8) gX5_climb_X3_reachedFrom rfl rfl rfl ndX3_reachedFrom ⟨Nat.le_of_ble_eq_true rfl, Nat.le_of_ble_eq_true rfl⟩ (by decide) rfl rfl rfl rfl (Nat.le_of_ble_eq_true rfl) rfl dX5_climb_46 ?_
      refine nx_iconst (v := 1) C0 dX5_climb_49 (by decide) ?_
      obtain ⟨r11, c10, h⟩ := nbind h
      refine nx_cVi (ci := 4) (n := 3) (As := [.int x1, .int r9, .int (1 : Int32)]) (st := []) C0 (mX4_choice l D B hB nT1 x1 r9 (1 : Int32) t7 c10) gX5_climb_X4_choice rfl rfl rfl ndX4_choice ⟨Nat.le_of_ble_eq_true rfl, Nat.le_of_ble_eq_true rfl⟩ (by have := nT_lt nT1; omega) (nT_e nT1 _) rfl rfl rfl (Nat.le_of_ble_eq_true rfl) rfl dX5_climb_50 ?_
      refine nx_istore_n (i := 3) (y := r11) (lv' := [(3, .int r11), (0, .ref (na B 0)), (1, .int x1), (2, .int x2)]) C0 dX5_climb_53 rfl (by decide) rfl rfl ?_
      refine nx_iload_n C0 0 dX5_climb_54 rfl ?_
      refine nx_if_ge (tgt := 62) C0 dX5_climb_55 (by decide) (fun q => ?_) (fun q => ?_)
      · have h := nift q h
        refine nx_aload_n C0 1 dX5_climb_62 rfl ?_
        refine nx_gX5_now C0 hh0 hh1 dX5_climb_63 ?_
        refine nx_iload_n C0 2 dX5_climb_66 rfl ?_
        refine nx_iload_n C0 0 dX5_climb_67 rfl ?_
        obtain ⟨r13, c12, h⟩ := nbind h
        refine nx_cVi (ci := 4) (n := 2) (As := [.int x1, .int r11]) (st := []) C0 (mX4_worthTo l D B hB nT1 x1 r11 t7 c12) gX5_climb_X4_worthTo rfl rfl rfl ndX4_worthTo ⟨Nat.le_of_ble_eq_true rfl, Nat.le_of_ble_eq_true rfl⟩ (by have := nT_lt nT1; omega) (nT_e nT1 _) rfl rfl rfl (Nat.le_of_ble_eq_true rfl) rfl dX5_climb_68 ?_
        refine nx_aload_n C0 1 dX5_climb_71 rfl ?_
        refine nx_gX5_now C0 hh0 hh1 dX5_climb_72 ?_
        refine nx_iload_n C0 2 dX5_climb_75 rfl ?_
        refine nx_iload_n C0 3 dX5_climb_76 rfl ?_
        obtain ⟨r15, c14, h⟩ := nbind h
        refine nx_cVi (ci := 4) (n := 2) (As := [.int x1, .int x2]) (st := [.int r13]) C0 (mX4_worthTo l D B hB nT1 x1 x2 t7 c14) gX5_climb_X4_worthTo rfl rfl rfl ndX4_worthTo ⟨Nat.le_of_ble_eq_true rfl, Nat.le_of_ble_eq_true rfl⟩ (by have := nT_lt nT1; omega) (nT_e nT1 _) rfl rfl rfl (Nat.le_of_ble_eq_true rfl) rfl dX5_climb_77 ?_
        refine nx_isub C0 dX5_climb_80 ?_
        exact nr_i2 C0 hr dX5_climb_81 h
      · have h := niff q h
        refine nx_iconst (v := 0) C0 dX5_climb_58 (by decide) ?_
        refine nx_goto (tgt := 81) C0 dX5_climb_59 (by decide) ?_
        exact nr_i2 C0 hr dX5_climb_81 h
    · have h := nift q h
      refine nx_iconst (v := -1) C0 dX5_climb_22 (by decide) ?_
      exact nr_i2 C0 hr dX5_climb_23 h
def rmX5_clearing : Room := { frames := 24, cells := 0, slots := 0, locals := 595 }
theorem ndX5_clearing : yX5_clearing.cls = RX5 ∧ yX5_clearing.cls ≠ "java/lang/invoke/MethodHandle" ∧ yX5_clearing.cls ≠ "java/lang/invoke/VarHandle" ∧ (parseMethodDescriptor yX5_clearing.desc).map (fun d => d.parameters.length) = some 1 := by decide +kernel
set_option maxRecDepth 100000 in
set_option maxHeartbeats 4000000 in
theorem mX5_clearing (l : Launch) (D : va_G) (B : nBT) (hB : nInj B) (x1 : Int32) (σ : nS) {r : Int32} {σ1 : nS} (h : fX5_clearing x1 σ = some (r, σ1)) : nMi l D B yX5_clearing wsX5_clearing rmX5_clearing [.ref (na B 0), .int x1] σ r σ1 := by
  refine nmet (cc := cX5_clearing) (maxL := 2) (ret := (some .int)) (own := RX5) (av := [.ref (na B 0), .int x1]) (nQi D B r σ1) hB (by decide) rfl rfl (Nat.le_of_ble_eq_true rfl) (fun p e s m args below meth c C0 hr => ?_)
  have hh0 : ∀ w ∈ wsX50, w ∈ wsX5_clearing := by decide +kernel
  have hh1 := C0.2.2.2.2.1 (Cond.fieldLink RX5 39 "NotInTheCoin" "settling" "LNotInTheCoin$Settling;") (by decide +kernel)
  have hh2 := C0.2.2.2.2.1 (Cond.fieldLink RX5 10 "NotInTheCoin" "now" "LNotInTheCoin$Town;") (by decide +kernel)
  have hfX5_clearing_b18 : ∀  (a1 : Int32) (σ : nS) (h : fX5_clearing_b18  a1 σ = some (r, σ1)), nJ p l e rmX5_clearing s m args below meth c 0 0 (MQ below (nQi D B r σ1 s.heap.size) args s 0 0 (nA B s.heap.size)) D B 2 18 [(0, .ref (na B 0)), (1, .int a1)] [] σ := by
    intro  a1 σ h
    rw [fX5_clearing_b18] at h
    refine nx_aload_n C0 0 dX5_clearing_18 rfl ?_
    refine nx_gX5_settling C0 hh0 hh1 dX5_clearing_19 ?_
    refine nx_aload_n C0 0 dX5_clearing_22 rfl ?_
    refine nx_gX5_now C0 hh0 hh2 dX5_clearing_23 ?_
    obtain ⟨r2, t3, c1, h⟩ := nbind2 h
    refine nx_cVv (ci := 0) (n := 1) (As := [.ref (na B 1)]) (st := []) C0 (mX0_look l D B hB nT1 σ c1) gX5_clearing_X0_look rfl rfl rfl ndX0_look ⟨Nat.le_of_ble_eq_true rfl, Nat.le_of_ble_eq_true rfl⟩ (by decide) rfl rfl rfl rfl (Nat.le_of_ble_eq_true rfl) rfl dX5_clearing_26 ?_
    refine nx_iload_n C0 1 dX5_clearing_29 rfl ?_
    refine nx_iconst (v := -1) C0 dX5_clearing_30 (by decide) ?_
    refine nx_icmp_ne (tgt := 46) C0 dX5_clearing_31 (by decide) (fun q => ?_) (fun q => ?_)
    · have h := niff q h
      refine nx_aload_n C0 0 dX5_clearing_46 rfl ?_
      refine nx_gX5_settling C0 hh0 hh1 dX5_clearing_47 ?_
      refine nx_iload_n C0 1 dX5_clearing_50 rfl ?_
      obtain ⟨r5, t6, c4, h⟩ := nbind2 h
      refine nx_cVi (ci := 0) (n := 1) (As := [.int a1]) (st := []) C0 (mX0_payment l D B hB a1 t3 c4) gX5_clearing_X0_payment rfl rfl rfl ndX0_payment ⟨Nat.le_of_ble_eq_true rfl, Nat.le_of_ble_eq_true rfl⟩ (by decide) rfl rfl rfl rfl (Nat.le_of_ble_eq_true rfl) rfl dX5_clearing_51 ?_
      exact nr_i2 C0 hr dX5_clearing_54 h
    · have h := nift q h
      refine nx_aload_n C0 0 dX5_clearing_34 rfl ?_
      refine nx_gX5_settling C0 hh0 hh1 dX5_clearing_35 ?_
      refine nx_iconst (v := 0) C0 dX5_clearing_38 (by decide) ?_
      refine nx_iconst (v := 0) C0 dX5_clearing_39 (by decide) ?_
      obtain ⟨r8, t9, c7, h⟩ := nbind2 h
      refine nx_cSi (n := 3) (As := [.ref (na B 48), .int (0 : Int32), .int (0 : Int32)]) (st := []) C0 (mX5_mostPaid l D B hB 20 (0 : Int32) (0 : Int32) t3 c7) gX5_clearing_X5_mostPaid rfl rfl rfl ndX5_mostPaid ⟨Nat.le_of_ble_eq_true rfl, Nat.le_of_ble_eq_true rfl⟩ rfl (Nat.le_of_ble_eq_true rfl) rfl dX5_clearing_40 ?_
      refine nx_goto (tgt := 54) C0 dX5_clearing_43 (by decide) ?_
      exact nr_i2 C0 hr dX5_clearing_54 h
  refine nx_lv (lv' := [(0, .ref (na B 0)), (1, .int x1)]) [0, 1] rfl ?_
  rw [fX5_clearing] at h
  refine nx_iload_n C0 1 dX5_clearing_0 rfl ?_
  refine nx_iconst (v := -1) C0 dX5_clearing_1 (by decide) ?_
  refine nx_icmp_eq (tgt := 18) C0 dX5_clearing_2 (by decide) (fun q => ?_) (fun q => ?_)
  · have h := nift q h
    exact hfX5_clearing_b18 x1 σ h
  · have h := niff q h
    refine nx_aload_n C0 0 dX5_clearing_5 rfl ?_
    refine nx_gX5_now C0 hh0 hh2 dX5_clearing_6 ?_
    refine nx_iload_n C0 1 dX5_clearing_9 rfl ?_
    obtain ⟨r11, c10, h⟩ := nbind h
    refine nx_cVi (ci := 4) (n := 1) (As := [.int x1]) (st := []) C0 (mX4_isLoan l D B hB nT1 x1 σ c10) gX5_clearing_X4_isLoan rfl rfl rfl ndX4_isLoan ⟨Nat.le_of_ble_eq_true rfl, Nat.le_of_ble_eq_true rfl⟩ (by have := nT_lt nT1; omega) (nT_e nT1 _) rfl rfl rfl (Nat.le_of_ble_eq_true rfl) rfl dX5_clearing_10 ?_
    refine nx_if_ne (tgt := 18) C0 dX5_clearing_13 (by decide) (fun q => ?_) (fun q => ?_)
    · have h := niff q h
      exact hfX5_clearing_b18 x1 σ h
    · have h := nift q h
      refine nx_iconst (v := -1) C0 dX5_clearing_16 (by decide) ?_
      exact nr_i2 C0 hr dX5_clearing_17 h
def rmX5_quarrel : Room := { frames := 3, cells := 0, slots := 0, locals := 76 }
theorem ndX5_quarrel : yX5_quarrel.cls = RX5 ∧ yX5_quarrel.cls ≠ "java/lang/invoke/MethodHandle" ∧ yX5_quarrel.cls ≠ "java/lang/invoke/VarHandle" ∧ (parseMethodDescriptor yX5_quarrel.desc).map (fun d => d.parameters.length) = some 2 := by decide +kernel
set_option maxRecDepth 100000 in
set_option maxHeartbeats 4000000 in
theorem mX5_quarrel (l : Launch) (D : va_G) (B : nBT) (hB : nInj B) (x1 : Int32) (x2 : Int32) (σ : nS) {r : Int32}  (h : fX5_quarrel x1 x2 σ = some r) : nMi l D B yX5_quarrel wsX5_quarrel rmX5_quarrel [.ref (na B 0), .int x1, .int x2] σ r σ := by
  refine nmet (cc := cX5_quarrel) (maxL := 3) (ret := (some .int)) (own := RX5) (av := [.ref (na B 0), .int x1, .int x2]) (nQi D B r σ) hB (by decide) rfl rfl (Nat.le_of_ble_eq_true rfl) (fun p e s m args below meth c C0 hr => ?_)
  have hh0 : ∀ w ∈ wsX50, w ∈ wsX5_quarrel := by decide +kernel
  have hh1 := C0.2.2.2.2.1 (Cond.fieldLink RX5 10 "NotInTheCoin" "now" "LNotInTheCoin$Town;") (by decide +kernel)
  refine nx_lv (lv' := [(0, .ref (na B 0)), (1, .int x1), (2, .int x2)]) [0, 1, 2] rfl ?_
  rw [fX5_quarrel] at h
  refine nx_aload_n C0 0 dX5_quarrel_0 rfl ?_
  refine nx_gX5_now C0 hh0 hh1 dX5_quarrel_1 ?_
  refine nx_iload_n C0 1 dX5_quarrel_4 rfl ?_
  obtain ⟨r2, c1, h⟩ := nbind h
  refine nx_cVi (ci := 4) (n := 1) (As := [.int x1]) (st := []) C0 (mX4_isGoods l D B hB nT1 x1 σ c1) gX5_quarrel_X4_isGoods rfl rfl rfl ndX4_isGoods ⟨Nat.le_of_ble_eq_true rfl, Nat.le_of_ble_eq_true rfl⟩ (by have := nT_lt nT1; omega) (nT_e nT1 _) rfl rfl rfl (Nat.le_of_ble_eq_true rfl) rfl dX5_quarrel_5 ?_
  refine nx_if_eq (tgt := 27) C0 dX5_quarrel_8 (by decide) (fun q => ?_) (fun q => ?_)
  · have h := nift q h
    refine nx_iconst (v := -1) C0 dX5_quarrel_27 (by decide) ?_
    exact nr_i C0 hr dX5_quarrel_28 h
  · have h := niff q h
    refine nx_aload_n C0 0 dX5_quarrel_11 rfl ?_
    refine nx_gX5_now C0 hh0 hh1 dX5_quarrel_12 ?_
    refine nx_iload_n C0 2 dX5_quarrel_15 rfl ?_
    obtain ⟨r4, c3, h⟩ := nbind h
    refine nx_cVi (ci := 4) (n := 1) (As := [.int x2]) (st := []) C0 (mX4_isGoods l D B hB nT1 x2 σ c3) gX5_quarrel_X4_isGoods rfl rfl rfl ndX4_isGoods ⟨Nat.le_of_ble_eq_true rfl, Nat.le_of_ble_eq_true rfl⟩ (by have := nT_lt nT1; omega) (nT_e nT1 _) rfl rfl rfl (Nat.le_of_ble_eq_true rfl) rfl dX5_quarrel_16 ?_
    refine nx_if_eq (tgt := 27) C0 dX5_quarrel_19 (by decide) (fun q => ?_) (fun q => ?_)
    · have h := nift q h
      refine nx_iconst (v := -1) C0 dX5_quarrel_27 (by decide) ?_
      exact nr_i C0 hr dX5_quarrel_28 h
    · have h := niff q h
      refine nx_iload_n C0 1 dX5_quarrel_22 rfl ?_
      refine nx_iload_n C0 2 dX5_quarrel_23 rfl ?_
      refine nx_icmp_ne (tgt := 29) C0 dX5_quarrel_24 (by decide) (fun q => ?_) (fun q => ?_)
      · have h := niff q h
        refine nx_aload_n C0 0 dX5_quarrel_29 rfl ?_
        refine nx_gX5_now C0 hh0 hh1 dX5_quarrel_30 ?_
        refine nx_iload_n C0 1 dX5_quarrel_33 rfl ?_
        refine nx_iload_n C0 2 dX5_quarrel_34 rfl ?_
        obtain ⟨r6, c5, h⟩ := nbind h
        refine nx_cVi (ci := 4) (n := 2) (As := [.int x1, .int x2]) (st := []) C0 (mX4_isQuarrel l D B hB nT1 x1 x2 σ c5) gX5_quarrel_X4_isQuarrel rfl rfl rfl ndX4_isQuarrel ⟨Nat.le_of_ble_eq_true rfl, Nat.le_of_ble_eq_true rfl⟩ (by have := nT_lt nT1; omega) (nT_e nT1 _) rfl rfl rfl (Nat.le_of_ble_eq_true rfl) rfl dX5_quarrel_35 ?_
        refine nx_if_eq (tgt := 45) C0 dX5_quarrel_38 (by decide) (fun q => ?_) (fun q => ?_)
        · have h := nift q h
          refine nx_iconst (v := 0) C0 dX5_quarrel_45 (by decide) ?_
          exact nr_i C0 hr dX5_quarrel_46 h
        · have h := niff q h
          refine nx_iconst (v := 1) C0 dX5_quarrel_41 (by decide) ?_
          refine nx_goto (tgt := 46) C0 dX5_quarrel_42 (by decide) ?_
          exact nr_i C0 hr dX5_quarrel_46 h
      · have h := nift q h
        refine nx_iconst (v := -1) C0 dX5_quarrel_27 (by decide) ?_
        exact nr_i C0 hr dX5_quarrel_28 h
def rmX5_tellsSames : Room := { frames := 1, cells := 0, slots := 0, locals := 20 }
theorem ndX5_tellsSames : yX5_tellsSames.cls ≠ "java/lang/invoke/MethodHandle" ∧ yX5_tellsSames.cls ≠ "java/lang/invoke/VarHandle" ∧ (parseMethodDescriptor yX5_tellsSames.desc).map (fun d => d.parameters.length) = some 1 := by decide +kernel
set_option maxRecDepth 100000 in
set_option maxHeartbeats 4000000 in
theorem mX5_tellsSames (l : Launch) (D : va_G) (B : nBT) (hB : nInj B) {k0 : Nat} (hk0 : nSh k0) (σ : nS) {r : Int32}  (h : fX5_tellsSames k0 σ = some r) : nMi l D B yX5_tellsSames wsX5_tellsSames rmX5_tellsSames [.ref (na B k0)] σ r σ := by
  refine nmet (cc := cX5_tellsSames) (maxL := 3) (ret := (some .boolean)) (own := RX5) (av := [.ref (na B k0)]) (nQi D B r σ) hB (by decide) rfl rfl (Nat.le_of_ble_eq_true rfl) (fun p e s m args below meth c C0 hr => ?_)
  have hh0 : ∀ w ∈ wsX10, w ∈ wsX5_tellsSames := by decide +kernel
  have hh1 := C0.2.2.2.2.1 (Cond.fieldLink RX5 70 "NotInTheCoin$Shelf" "size" "I") (by decide +kernel)
  have hh2 := C0.2.2.2.2.1 (Cond.fieldLink RX5 77 "NotInTheCoin$Shelf" "cells" "[I") (by decide +kernel)
  have hfX5_tellsSames_b13 : ∀  (n : Nat) (k_0 : Nat) (hk_0 : nSh k_0) (a1 : Int32) (h : fX5_tellsSames_b13  n k_0 a1 σ = some r), nJ p l e rmX5_tellsSames s m args below meth c 0 0 (MQ below (nQi D B r σ s.heap.size) args s 0 0 (nA B s.heap.size)) D B 3 13 [(0, .ref (na B k_0)), (1, .int a1)] [] σ := by
    intro  n
    induction n with
    | zero => intro k_0 hk_0 a1 h; cases h
    | succ n ih =>
        intro k_0 hk_0 a1 h
        rw [fX5_tellsSames_b13] at h
        refine nx_iload_n C0 1 dX5_tellsSames_13 rfl ?_
        refine nx_iconst (v := 2) C0 dX5_tellsSames_14 (by decide) ?_
        refine nx_iadd C0 dX5_tellsSames_15 ?_
        refine nx_aload_n C0 0 dX5_tellsSames_16 rfl ?_
        refine nx_gX1_size C0 hk_0 hh0 hh1 dX5_tellsSames_17 ?_
        refine nx_icmp_ge (tgt := 75) C0 dX5_tellsSames_20 (by decide) (fun q => ?_) (fun q => ?_)
        · have h := nift q h
          refine nx_iconst (v := 1) C0 dX5_tellsSames_75 (by decide) ?_
          exact nr_z C0 hr (Or.inr rfl) dX5_tellsSames_76 h
        · have h := niff q h
          refine nx_aload_n C0 0 dX5_tellsSames_23 rfl ?_
          refine nx_gX1_cells C0 hk_0 hh0 hh2 dX5_tellsSames_24 ?_
          refine nx_iload_n C0 1 dX5_tellsSames_27 rfl ?_
          refine nx_iconst (v := 2) C0 dX5_tellsSames_28 (by decide) ?_
          refine nx_iadd C0 dX5_tellsSames_29 ?_
          obtain ⟨g1, h⟩ := nguard h
          refine nx_iald C0 (nSh_c hk_0) g1 dX5_tellsSames_30 ?_
          obtain ⟨v2, ev2, h⟩ := nlet h
          refine nx_istore_n (i := 2) (y := v2) (lv' := [(2, .int v2), (0, .ref (na B k_0)), (1, .int a1)]) C0 dX5_tellsSames_31 rfl (by decide) ev2 rfl ?_
          refine nx_aload_n C0 1 dX5_tellsSames_32 rfl ?_
          refine nx_gX1_cells C0 hk_0 hh0 hh2 dX5_tellsSames_33 ?_
          refine nx_iload_n C0 2 dX5_tellsSames_36 rfl ?_
          obtain ⟨g3, h⟩ := nguard h
          refine nx_iald C0 (nSh_c hk_0) g3 dX5_tellsSames_37 ?_
          obtain ⟨r5, c4, h⟩ := nbind h
          refine nx_cSi (n := 1) (As := [.int (σ (k_0 + 1) (a1).toNatClampNeg)]) (st := []) C0 (mX5_isKind l D B hB (σ (k_0 + 1) (a1).toNatClampNeg) σ c4) gX5_tellsSames_X5_isKind rfl rfl rfl ndX5_isKind ⟨Nat.le_of_ble_eq_true rfl, Nat.le_of_ble_eq_true rfl⟩ rfl (Nat.le_of_ble_eq_true rfl) rfl dX5_tellsSames_38 ?_
          refine nx_if_eq (tgt := 67) C0 dX5_tellsSames_41 (by decide) (fun q => ?_) (fun q => ?_)
          · have h := nift q h
            refine nx_iconst (v := 0) C0 dX5_tellsSames_67 (by decide) ?_
            exact nr_z C0 hr (Or.inl rfl) dX5_tellsSames_68 h
          · have h := niff q h
            refine nx_aload_n C0 1 dX5_tellsSames_44 rfl ?_
            refine nx_gX1_cells C0 hk_0 hh0 hh2 dX5_tellsSames_45 ?_
            refine nx_iload_n C0 2 dX5_tellsSames_48 rfl ?_
            refine nx_iconst (v := 1) C0 dX5_tellsSames_49 (by decide) ?_
            refine nx_iadd C0 dX5_tellsSames_50 ?_
            obtain ⟨g6, h⟩ := nguard h
            refine nx_iald C0 (nSh_c hk_0) g6 dX5_tellsSames_51 ?_
            obtain ⟨r8, c7, h⟩ := nbind h
            refine nx_cSi (n := 1) (As := [.int (σ (k_0 + 1) ((a1 + (1 : Int32))).toNatClampNeg)]) (st := []) C0 (mX5_isKind l D B hB (σ (k_0 + 1) ((a1 + (1 : Int32))).toNatClampNeg) σ c7) gX5_tellsSames_X5_isKind rfl rfl rfl ndX5_isKind ⟨Nat.le_of_ble_eq_true rfl, Nat.le_of_ble_eq_true rfl⟩ rfl (Nat.le_of_ble_eq_true rfl) rfl dX5_tellsSames_52 ?_
            refine nx_if_eq (tgt := 67) C0 dX5_tellsSames_55 (by decide) (fun q => ?_) (fun q => ?_)
            · have h := nift q h
              refine nx_iconst (v := 0) C0 dX5_tellsSames_67 (by decide) ?_
              exact nr_z C0 hr (Or.inl rfl) dX5_tellsSames_68 h
            · have h := niff q h
              refine nx_iload_n C0 0 dX5_tellsSames_58 rfl ?_
              refine nx_if_lt (tgt := 67) C0 dX5_tellsSames_59 (by decide) (fun q => ?_) (fun q => ?_)
              · have h := nift q h
                refine nx_iconst (v := 0) C0 dX5_tellsSames_67 (by decide) ?_
                exact nr_z C0 hr (Or.inl rfl) dX5_tellsSames_68 h
              · have h := niff q h
                refine nx_iload_n C0 0 dX5_tellsSames_62 rfl ?_
                refine nx_iconst (v := 1) C0 dX5_tellsSames_63 (by decide) ?_
                refine nx_icmp_le (tgt := 69) C0 dX5_tellsSames_64 (by decide) (fun q => ?_) (fun q => ?_)
                · have h := nift q h
                  obtain ⟨v9, ev9, h⟩ := nlet h
                  refine nx_iinc (v := v9) (lv' := [(1, .int v9), (2, .int v2), (0, .ref (na B k_0))]) C0 2 dX5_tellsSames_69 rfl ev9 (by decide) rfl ?_
                  refine nx_goto (tgt := 13) C0 dX5_tellsSames_72 (by decide) ?_
                  refine nx_lv (lv' := [(0, .ref (na B k_0)), (1, .int v9)]) [2, 0] rfl ?_
                  exact ih k_0 hk_0 v9 h
                · have h := niff q h
                  refine nx_iconst (v := 0) C0 dX5_tellsSames_67 (by decide) ?_
                  exact nr_z C0 hr (Or.inl rfl) dX5_tellsSames_68 h
  refine nx_lv (lv' := [(0, .ref (na B k0))]) [0] rfl ?_
  rw [fX5_tellsSames] at h
  refine nx_aload_n C0 0 dX5_tellsSames_0 rfl ?_
  refine nx_gX1_size C0 hk0 hh0 hh1 dX5_tellsSames_1 ?_
  refine nx_iconst (v := 3) C0 dX5_tellsSames_4 (by decide) ?_
  refine nx_irem C0 dX5_tellsSames_5 (by decide) ?_
  refine nx_if_eq (tgt := 11) C0 dX5_tellsSames_6 (by decide) (fun q => ?_) (fun q => ?_)
  · have h := nift q h
    refine nx_iconst (v := 0) C0 dX5_tellsSames_11 (by decide) ?_
    refine nx_istore_n (i := 1) (y := (0 : Int32)) (lv' := [(1, .int (0 : Int32)), (0, .ref (na B k0))]) C0 dX5_tellsSames_12 rfl (by decide) rfl rfl ?_
    refine nx_lv (lv' := [(0, .ref (na B k0)), (1, .int (0 : Int32))]) [1, 0] rfl ?_
    exact hfX5_tellsSames_b13 4096 k0 hk0 (0 : Int32) h
  · have h := niff q h
    refine nx_iconst (v := 0) C0 dX5_tellsSames_9 (by decide) ?_
    exact nr_z C0 hr (Or.inl rfl) dX5_tellsSames_10 h
def rmX5_shortest : Room := { frames := 24, cells := 0, slots := 0, locals := 570 }
theorem ndX5_shortest : yX5_shortest.cls = RX5 ∧ yX5_shortest.cls ≠ "java/lang/invoke/MethodHandle" ∧ yX5_shortest.cls ≠ "java/lang/invoke/VarHandle" ∧ (parseMethodDescriptor yX5_shortest.desc).map (fun d => d.parameters.length) = some 2 := by decide +kernel
set_option maxRecDepth 100000 in
set_option maxHeartbeats 4000000 in
theorem mX5_shortest (l : Launch) (D : va_G) (B : nBT) (hB : nInj B) (x1 : Int32) (x2 : Int32) (σ : nS) {r : Int32} {σ1 : nS} (h : fX5_shortest x1 x2 σ = some (r, σ1)) : nMi l D B yX5_shortest wsX5_shortest rmX5_shortest [.ref (na B 0), .int x1, .int x2] σ r σ1 := by
  refine nmet (cc := cX5_shortest) (maxL := 5) (ret := (some .int)) (own := RX5) (av := [.ref (na B 0), .int x1, .int x2]) (nQi D B r σ1) hB (by decide) rfl rfl (Nat.le_of_ble_eq_true rfl) (fun p e s m args below meth c C0 hr => ?_)
  have hh0 : ∀ w ∈ wsX50, w ∈ wsX5_shortest := by decide +kernel
  have hh1 := C0.2.2.2.2.1 (Cond.fieldLink RX5 24 "NotInTheCoin" "shelves" "[LNotInTheCoin$Shelf;") (by decide +kernel)
  have hh2 := C0.2.2.2.2.1 (Cond.fieldLink RX5 46 "NotInTheCoin" "shortList" "LNotInTheCoin$ShortList;") (by decide +kernel)
  have hh3 : ∀ w ∈ wsX20, w ∈ wsX5_shortest := by decide +kernel
  have hh4 := C0.2.2.2.2.1 (Cond.fieldLink RX5 223 "NotInTheCoin$ShortList" "classOf" "[I") (by decide +kernel)
  refine nx_lv (lv' := [(0, .ref (na B 0)), (1, .int x1), (2, .int x2)]) [0, 1, 2] rfl ?_
  rw [fX5_shortest] at h
  refine nx_iload_n C0 1 dX5_shortest_0 rfl ?_
  obtain ⟨r2, c1, h⟩ := nbind h
  refine nx_cSi (n := 1) (As := [.int x1]) (st := []) C0 (mX5_isShelf l D B hB x1 σ c1) gX5_shortest_X5_isShelf rfl rfl rfl ndX5_isShelf ⟨Nat.le_of_ble_eq_true rfl, Nat.le_of_ble_eq_true rfl⟩ rfl (Nat.le_of_ble_eq_true rfl) rfl dX5_shortest_1 ?_
  refine nx_if_eq (tgt := 18) C0 dX5_shortest_4 (by decide) (fun q => ?_) (fun q => ?_)
  · have h := nift q h
    refine nx_iconst (v := -1) C0 dX5_shortest_18 (by decide) ?_
    exact nr_i2 C0 hr dX5_shortest_19 h
  · have h := niff q h
    refine nx_iload_n C0 2 dX5_shortest_7 rfl ?_
    refine nx_iconst (v := -1) C0 dX5_shortest_8 (by decide) ?_
    refine nx_icmp_lt (tgt := 18) C0 dX5_shortest_9 (by decide) (fun q => ?_) (fun q => ?_)
    · have h := nift q h
      refine nx_iconst (v := -1) C0 dX5_shortest_18 (by decide) ?_
      exact nr_i2 C0 hr dX5_shortest_19 h
    · have h := niff q h
      refine nx_iload_n C0 2 dX5_shortest_12 rfl ?_
      refine nx_bipush (v := 8) C0 dX5_shortest_13 (by decide) ?_
      refine nx_icmp_lt (tgt := 20) C0 dX5_shortest_15 (by decide) (fun q => ?_) (fun q => ?_)
      · have h := nift q h
        refine nx_aload_n C0 0 dX5_shortest_20 rfl ?_
        refine nx_gX5_shelves C0 hh0 hh1 dX5_shortest_21 ?_
        refine nx_iload_n C0 1 dX5_shortest_24 rfl ?_
        obtain ⟨g3, h⟩ := nguard h
        refine nx_aldS C0 g3 dX5_shortest_25 ?_
        refine nx_iconst (v := 2) C0 dX5_shortest_26 (by decide) ?_
        obtain ⟨r5, c4, h⟩ := nbind h
        refine nx_cVi (ci := 1) (n := 1) (As := [.int (2 : Int32)]) (st := []) C0 (mX1_refusal l D B hB (nSh_of g3) (2 : Int32) σ c4) gX5_shortest_X1_refusal rfl rfl rfl ndX1_refusal ⟨Nat.le_of_ble_eq_true rfl, Nat.le_of_ble_eq_true rfl⟩ (by have := nSh_lt (nSh_of g3); omega) (nSh_e (nSh_of g3) _) rfl rfl rfl (Nat.le_of_ble_eq_true rfl) rfl dX5_shortest_27 ?_
        refine nx_istore_n (i := 3) (y := r5) (lv' := [(3, .int r5), (0, .ref (na B 0)), (1, .int x1), (2, .int x2)]) C0 dX5_shortest_30 rfl (by decide) rfl rfl ?_
        refine nx_iload_n C0 0 dX5_shortest_31 rfl ?_
        refine nx_if_eq (tgt := 37) C0 dX5_shortest_32 (by decide) (fun q => ?_) (fun q => ?_)
        · have h := nift q h
          refine nx_aload_n C0 1 dX5_shortest_37 rfl ?_
          refine nx_gX5_shelves C0 hh0 hh1 dX5_shortest_38 ?_
          refine nx_iload_n C0 2 dX5_shortest_41 rfl ?_
          obtain ⟨g6, h⟩ := nguard h
          refine nx_aldS C0 g6 dX5_shortest_42 ?_
          obtain ⟨r8, c7, h⟩ := nbind h
          refine nx_cSi (n := 1) (As := [.ref (na B (29 + 2 * (x1).toNatClampNeg))]) (st := []) C0 (mX5_tellsSames l D B hB (nSh_of g6) σ c7) gX5_shortest_X5_tellsSames rfl rfl rfl ndX5_tellsSames ⟨Nat.le_of_ble_eq_true rfl, Nat.le_of_ble_eq_true rfl⟩ rfl (Nat.le_of_ble_eq_true rfl) rfl dX5_shortest_43 ?_
          refine nx_if_ne (tgt := 52) C0 dX5_shortest_46 (by decide) (fun q => ?_) (fun q => ?_)
          · have h := niff q h
            refine nx_aload_n C0 1 dX5_shortest_52 rfl ?_
            refine nx_gX5_shortList C0 hh0 hh2 dX5_shortest_53 ?_
            refine nx_aload_n C0 1 dX5_shortest_56 rfl ?_
            refine nx_gX5_shelves C0 hh0 hh1 dX5_shortest_57 ?_
            refine nx_iload_n C0 2 dX5_shortest_60 rfl ?_
            obtain ⟨g9, h⟩ := nguard h
            refine nx_aldS C0 g9 dX5_shortest_61 ?_
            obtain ⟨r11, t12, c10, h⟩ := nbind2 h
            refine nx_cVi (ci := 2) (n := 1) (As := [.ref (na B (29 + 2 * (x1).toNatClampNeg))]) (st := []) C0 (mX2_fewest l D B hB (nSh_of g9) σ c10) gX5_shortest_X2_fewest rfl rfl rfl ndX2_fewest ⟨Nat.le_of_ble_eq_true rfl, Nat.le_of_ble_eq_true rfl⟩ (by decide) rfl rfl rfl rfl (Nat.le_of_ble_eq_true rfl) rfl dX5_shortest_62 ?_
            refine nx_istore (i := 4) (y := r11) (lv' := [(4, .int r11), (3, .int r5), (0, .ref (na B 0)), (1, .int x1), (2, .int x2)]) C0 dX5_shortest_65 (by decide) rfl rfl ?_
            refine nx_iload C0 0 dX5_shortest_67 rfl ?_
            refine nx_if_lt (tgt := 77) C0 dX5_shortest_69 (by decide) (fun q => ?_) (fun q => ?_)
            · have h := nift q h
              refine nx_iload C0 0 dX5_shortest_77 rfl ?_
              exact nr_i2 C0 hr dX5_shortest_79 h
            · have h := niff q h
              refine nx_iload_n C0 4 dX5_shortest_72 rfl ?_
              refine nx_iconst (v := -1) C0 dX5_shortest_73 (by decide) ?_
              refine nx_icmp_ne (tgt := 80) C0 dX5_shortest_74 (by decide) (fun q => ?_) (fun q => ?_)
              · have h := niff q h
                refine nx_aload_n C0 2 dX5_shortest_80 rfl ?_
                refine nx_gX5_shortList C0 hh0 hh2 dX5_shortest_81 ?_
                refine nx_gX2_classOf C0 hh3 hh4 dX5_shortest_84 ?_
                refine nx_iload_n C0 4 dX5_shortest_87 rfl ?_
                obtain ⟨g13, h⟩ := nguard h
                refine nx_iald C0 nI_62 g13 dX5_shortest_88 ?_
                exact nr_i2 C0 hr dX5_shortest_89 h
              · have h := nift q h
                refine nx_iload C0 0 dX5_shortest_77 rfl ?_
                exact nr_i2 C0 hr dX5_shortest_79 h
          · have h := nift q h
            refine nx_bipush (v := -13) C0 dX5_shortest_49 (by decide) ?_
            exact nr_i2 C0 hr dX5_shortest_51 h
        · have h := niff q h
          refine nx_iload_n C0 0 dX5_shortest_35 rfl ?_
          exact nr_i2 C0 hr dX5_shortest_36 h
      · have h := niff q h
        refine nx_iconst (v := -1) C0 dX5_shortest_18 (by decide) ?_
        exact nr_i2 C0 hr dX5_shortest_19 h
def rmX5_tellsGoods : Room := { frames := 1, cells := 0, slots := 0, locals := 21 }
theorem ndX5_tellsGoods : yX5_tellsGoods.cls = RX5 ∧ yX5_tellsGoods.cls ≠ "java/lang/invoke/MethodHandle" ∧ yX5_tellsGoods.cls ≠ "java/lang/invoke/VarHandle" ∧ (parseMethodDescriptor yX5_tellsGoods.desc).map (fun d => d.parameters.length) = some 1 := by decide +kernel
set_option maxRecDepth 100000 in
set_option maxHeartbeats 4000000 in
theorem mX5_tellsGoods (l : Launch) (D : va_G) (B : nBT) (hB : nInj B) {k1 : Nat} (hk1 : nSh k1) (σ : nS) {r : Int32}  (h : fX5_tellsGoods k1 σ = some r) : nMi l D B yX5_tellsGoods wsX5_tellsGoods rmX5_tellsGoods [.ref (na B 0), .ref (na B k1)] σ r σ := by
  refine nmet (cc := cX5_tellsGoods) (maxL := 3) (ret := (some .boolean)) (own := RX5) (av := [.ref (na B 0), .ref (na B k1)]) (nQi D B r σ) hB (by decide) rfl rfl (Nat.le_of_ble_eq_true rfl) (fun p e s m args below meth c C0 hr => ?_)
  have hh0 : ∀ w ∈ wsX10, w ∈ wsX5_tellsGoods := by decide +kernel
  have hh1 := C0.2.2.2.2.1 (Cond.fieldLink RX5 70 "NotInTheCoin$Shelf" "size" "I") (by decide +kernel)
  have hh2 : ∀ w ∈ wsX50, w ∈ wsX5_tellsGoods := by decide +kernel
  have hh3 := C0.2.2.2.2.1 (Cond.fieldLink RX5 10 "NotInTheCoin" "now" "LNotInTheCoin$Town;") (by decide +kernel)
  have hh4 := C0.2.2.2.2.1 (Cond.fieldLink RX5 77 "NotInTheCoin$Shelf" "cells" "[I") (by decide +kernel)
  have hfX5_tellsGoods_b2 : ∀  (n : Nat) (k_1 : Nat) (hk_1 : nSh k_1) (a2 : Int32) (h : fX5_tellsGoods_b2  n k_1 a2 σ = some r), nJ p l e rmX5_tellsGoods s m args below meth c 0 0 (MQ below (nQi D B r σ s.heap.size) args s 0 0 (nA B s.heap.size)) D B 3 2 [(0, .ref (na B 0)), (1, .ref (na B k_1)), (2, .int a2)] [] σ := by
    intro  n
    induction n with
    | zero => intro k_1 hk_1 a2 h; cases h
    | succ n ih =>
        intro k_1 hk_1 a2 h
        rw [fX5_tellsGoods_b2] at h
        refine nx_iload_n C0 2 dX5_tellsGoods_2 rfl ?_
        refine nx_aload_n C0 1 dX5_tellsGoods_3 rfl ?_
        refine nx_gX1_size C0 hk_1 hh0 hh1 dX5_tellsGoods_4 ?_
        refine nx_icmp_ge (tgt := 34) C0 dX5_tellsGoods_7 (by decide) (fun q => ?_) (fun q => ?_)
        · have h := nift q h
          refine nx_iconst (v := 1) C0 dX5_tellsGoods_34 (by decide) ?_
          exact nr_z C0 hr (Or.inr rfl) dX5_tellsGoods_35 h
        · have h := niff q h
          refine nx_aload_n C0 0 dX5_tellsGoods_10 rfl ?_
          refine nx_gX5_now C0 hh2 hh3 dX5_tellsGoods_11 ?_
          refine nx_aload_n C0 1 dX5_tellsGoods_14 rfl ?_
          refine nx_gX1_cells C0 hk_1 hh0 hh4 dX5_tellsGoods_15 ?_
          refine nx_iload_n C0 2 dX5_tellsGoods_18 rfl ?_
          obtain ⟨g1, h⟩ := nguard h
          refine nx_iald C0 (nSh_c hk_1) g1 dX5_tellsGoods_19 ?_
          obtain ⟨r3, c2, h⟩ := nbind h
          refine nx_cVi (ci := 4) (n := 1) (As := [.int (σ (k_1 + 1) (a2).toNatClampNeg)]) (st := []) C0 (mX4_isGoods l D B hB nT1 (σ (k_1 + 1) (a2).toNatClampNeg) σ c2) gX5_tellsGoods_X4_isGoods rfl rfl rfl ndX4_isGoods ⟨Nat.le_of_ble_eq_true rfl, Nat.le_of_ble_eq_true rfl⟩ (by have := nT_lt nT1; omega) (nT_e nT1 _) rfl rfl rfl (Nat.le_of_ble_eq_true rfl) rfl dX5_tellsGoods_20 ?_
          refine nx_if_ne (tgt := 28) C0 dX5_tellsGoods_23 (by decide) (fun q => ?_) (fun q => ?_)
          · have h := niff q h
            obtain ⟨v4, ev4, h⟩ := nlet h
            refine nx_iinc (v := v4) (lv' := [(2, .int v4), (0, .ref (na B 0)), (1, .ref (na B k_1))]) C0 2 dX5_tellsGoods_28 rfl ev4 (by decide) rfl ?_
            refine nx_goto (tgt := 2) C0 dX5_tellsGoods_31 (by decide) ?_
            refine nx_lv (lv' := [(0, .ref (na B 0)), (1, .ref (na B k_1)), (2, .int v4)]) [1, 2, 0] rfl ?_
            exact ih k_1 hk_1 v4 h
          · have h := nift q h
            refine nx_iconst (v := 0) C0 dX5_tellsGoods_26 (by decide) ?_
            exact nr_z C0 hr (Or.inl rfl) dX5_tellsGoods_27 h
  refine nx_lv (lv' := [(0, .ref (na B 0)), (1, .ref (na B k1))]) [0, 1] rfl ?_
  rw [fX5_tellsGoods] at h
  refine nx_iconst (v := 0) C0 dX5_tellsGoods_0 (by decide) ?_
  refine nx_istore_n (i := 2) (y := (0 : Int32)) (lv' := [(2, .int (0 : Int32)), (0, .ref (na B 0)), (1, .ref (na B k1))]) C0 dX5_tellsGoods_1 rfl (by decide) rfl rfl ?_
  refine nx_lv (lv' := [(0, .ref (na B 0)), (1, .ref (na B k1)), (2, .int (0 : Int32))]) [1, 2, 0] rfl ?_
  exact hfX5_tellsGoods_b2 4096 k1 hk1 (0 : Int32) h
def rmX5_bitsOf : Room := { frames := 0, cells := 0, slots := 0, locals := 0 }
theorem ndX5_bitsOf : yX5_bitsOf.cls ≠ "java/lang/invoke/MethodHandle" ∧ yX5_bitsOf.cls ≠ "java/lang/invoke/VarHandle" ∧ (parseMethodDescriptor yX5_bitsOf.desc).map (fun d => d.parameters.length) = some 1 := by decide +kernel
set_option maxRecDepth 100000 in
set_option maxHeartbeats 4000000 in
theorem mX5_bitsOf (l : Launch) (D : va_G) (B : nBT) (hB : nInj B) {k0 : Nat} (hk0 : nSh k0) (σ : nS) {r : Int32}  (h : fX5_bitsOf k0 σ = some r) : nMi l D B yX5_bitsOf wsX5_bitsOf rmX5_bitsOf [.ref (na B k0)] σ r σ := by
  refine nmet (cc := cX5_bitsOf) (maxL := 3) (ret := (some .int)) (own := RX5) (av := [.ref (na B k0)]) (nQi D B r σ) hB (by decide) rfl rfl (Nat.le_of_ble_eq_true rfl) (fun p e s m args below meth c C0 hr => ?_)
  have hh0 : ∀ w ∈ wsX10, w ∈ wsX5_bitsOf := by decide +kernel
  have hh1 := C0.2.2.2.2.1 (Cond.fieldLink RX5 70 "NotInTheCoin$Shelf" "size" "I") (by decide +kernel)
  have hh2 := C0.2.2.2.2.1 (Cond.fieldLink RX5 77 "NotInTheCoin$Shelf" "cells" "[I") (by decide +kernel)
  have hfX5_bitsOf_b4 : ∀  (n : Nat) (k_0 : Nat) (hk_0 : nSh k_0) (a1 : Int32) (a2 : Int32) (h : fX5_bitsOf_b4  n k_0 a1 a2 σ = some r), nJ p l e rmX5_bitsOf s m args below meth c 0 0 (MQ below (nQi D B r σ s.heap.size) args s 0 0 (nA B s.heap.size)) D B 3 4 [(0, .ref (na B k_0)), (1, .int a1), (2, .int a2)] [] σ := by
    intro  n
    induction n with
    | zero => intro k_0 hk_0 a1 a2 h; cases h
    | succ n ih =>
        intro k_0 hk_0 a1 a2 h
        rw [fX5_bitsOf_b4] at h
        refine nx_iload_n C0 2 dX5_bitsOf_4 rfl ?_
        refine nx_aload_n C0 0 dX5_bitsOf_5 rfl ?_
        refine nx_gX1_size C0 hk_0 hh0 hh1 dX5_bitsOf_6 ?_
        refine nx_icmp_ge (tgt := 29) C0 dX5_bitsOf_9 (by decide) (fun q => ?_) (fun q => ?_)
        · have h := nift q h
          refine nx_iload_n C0 1 dX5_bitsOf_29 rfl ?_
          exact nr_i C0 hr dX5_bitsOf_30 h
        · have h := niff q h
          refine nx_iload_n C0 1 dX5_bitsOf_12 rfl ?_
          refine nx_iconst (v := 1) C0 dX5_bitsOf_13 (by decide) ?_
          refine nx_aload_n C0 0 dX5_bitsOf_14 rfl ?_
          refine nx_gX1_cells C0 hk_0 hh0 hh2 dX5_bitsOf_15 ?_
          refine nx_iload_n C0 2 dX5_bitsOf_18 rfl ?_
          obtain ⟨g1, h⟩ := nguard h
          refine nx_iald C0 (nSh_c hk_0) g1 dX5_bitsOf_19 ?_
          refine nx_ishl C0 dX5_bitsOf_20 ?_
          refine nx_ior C0 dX5_bitsOf_21 ?_
          obtain ⟨v2, ev2, h⟩ := nlet h
          refine nx_istore_n (i := 1) (y := v2) (lv' := [(1, .int v2), (0, .ref (na B k_0)), (2, .int a2)]) C0 dX5_bitsOf_22 rfl (by decide) ev2 rfl ?_
          obtain ⟨v3, ev3, h⟩ := nlet h
          refine nx_iinc (v := v3) (lv' := [(2, .int v3), (1, .int v2), (0, .ref (na B k_0))]) C0 2 dX5_bitsOf_23 rfl ev3 (by decide) rfl ?_
          refine nx_goto (tgt := 4) C0 dX5_bitsOf_26 (by decide) ?_
          refine nx_lv (lv' := [(0, .ref (na B k_0)), (1, .int v2), (2, .int v3)]) [2, 1, 0] rfl ?_
          exact ih k_0 hk_0 v2 v3 h
  refine nx_lv (lv' := [(0, .ref (na B k0))]) [0] rfl ?_
  rw [fX5_bitsOf] at h
  refine nx_iconst (v := 0) C0 dX5_bitsOf_0 (by decide) ?_
  refine nx_istore_n (i := 1) (y := (0 : Int32)) (lv' := [(1, .int (0 : Int32)), (0, .ref (na B k0))]) C0 dX5_bitsOf_1 rfl (by decide) rfl rfl ?_
  refine nx_iconst (v := 0) C0 dX5_bitsOf_2 (by decide) ?_
  refine nx_istore_n (i := 2) (y := (0 : Int32)) (lv' := [(2, .int (0 : Int32)), (1, .int (0 : Int32)), (0, .ref (na B k0))]) C0 dX5_bitsOf_3 rfl (by decide) rfl rfl ?_
  refine nx_lv (lv' := [(0, .ref (na B k0)), (1, .int (0 : Int32)), (2, .int (0 : Int32))]) [2, 1, 0] rfl ?_
  exact hfX5_bitsOf_b4 4096 k0 hk0 (0 : Int32) (0 : Int32) h
def rmX5_lent : Room := { frames := 2, cells := 0, slots := 0, locals := 55 }
theorem ndX5_lent : yX5_lent.cls = RX5 ∧ yX5_lent.cls ≠ "java/lang/invoke/MethodHandle" ∧ yX5_lent.cls ≠ "java/lang/invoke/VarHandle" ∧ (parseMethodDescriptor yX5_lent.desc).map (fun d => d.parameters.length) = some 3 := by decide +kernel
set_option maxRecDepth 100000 in
set_option maxHeartbeats 4000000 in
theorem mX5_lent (l : Launch) (D : va_G) (B : nBT) (hB : nInj B) (x1 : Int32) (x2 : Int32) (x3 : Int32) (σ : nS) {r : Int32}  (h : fX5_lent x1 x2 x3 σ = some r) : nMi l D B yX5_lent wsX5_lent rmX5_lent [.ref (na B 0), .int x1, .int x2, .int x3] σ r σ := by
  refine nmet (cc := cX5_lent) (maxL := 8) (ret := (some .int)) (own := RX5) (av := [.ref (na B 0), .int x1, .int x2, .int x3]) (nQi D B r σ) hB (by decide) rfl rfl (Nat.le_of_ble_eq_true rfl) (fun p e s m args below meth c C0 hr => ?_)
  have hh0 : ∀ w ∈ wsX50, w ∈ wsX5_lent := by decide +kernel
  have hh1 := C0.2.2.2.2.1 (Cond.fieldLink RX5 10 "NotInTheCoin" "now" "LNotInTheCoin$Town;") (by decide +kernel)
  have hh2 : ∀ w ∈ wsX40, w ∈ wsX5_lent := by decide +kernel
  have hh3 := C0.2.2.2.2.1 (Cond.fieldLink RX5 230 "NotInTheCoin$Town" "goods" "I") (by decide +kernel)
  have hh4 := C0.2.2.2.2.1 (Cond.fieldLink RX5 24 "NotInTheCoin" "shelves" "[LNotInTheCoin$Shelf;") (by decide +kernel)
  have hfX5_lent_b82 : ∀  (n : Nat) (a2 : Int32) (a3 : Int32) (a5 : Int32) (a6 : Int32) (a7 : Int32) (h : fX5_lent_b82  n a2 a3 a5 a6 a7 σ = some r), nJ p l e rmX5_lent s m args below meth c 0 0 (MQ below (nQi D B r σ s.heap.size) args s 0 0 (nA B s.heap.size)) D B 8 82 [(0, .ref (na B 0)), (2, .int a2), (3, .int a3), (5, .int a5), (6, .int a6), (7, .int a7)] [] σ := by
    intro  n
    induction n with
    | zero => intro a2 a3 a5 a6 a7 h; cases h
    | succ n ih =>
        intro a2 a3 a5 a6 a7 h
        rw [fX5_lent_b82] at h
        refine nx_iload C0 5 dX5_lent_82 rfl ?_
        refine nx_aload_n C0 0 dX5_lent_84 rfl ?_
        refine nx_gX5_now C0 hh0 hh1 dX5_lent_85 ?_
        refine nx_gX4_goods C0 nT1 hh2 hh3 dX5_lent_88 ?_
        refine nx_icmp_ge (tgt := 127) C0 dX5_lent_91 (by decide) (fun q => ?_) (fun q => ?_)
        · have h := nift q h
          refine nx_iload_n C0 2 dX5_lent_127 rfl ?_
          refine nx_if_ne (tgt := 136) C0 dX5_lent_128 (by decide) (fun q => ?_) (fun q => ?_)
          · have h := niff q h
            refine nx_iload C0 4 dX5_lent_136 rfl ?_
            obtain ⟨r2, c1, h⟩ := nbind h
            refine nx_cSi (n := 1) (As := [.int a6]) (st := []) C0 (mJ6_bitCount_0f7a4 l D B hB a6 σ c1) gX5_lent_J6_bitCount_0f7a4 rfl rfl rfl ndJ6_bitCount_0f7a4 ⟨Nat.le_of_ble_eq_true rfl, Nat.le_of_ble_eq_true rfl⟩ rfl (Nat.le_of_ble_eq_true rfl) rfl dX5_lent_138 ?_
            exact nr_i C0 hr dX5_lent_141 h
          · have h := nift q h
            refine nx_iload C0 4 dX5_lent_131 rfl ?_
            refine nx_goto (tgt := 141) C0 dX5_lent_133 (by decide) ?_
            exact nr_i C0 hr dX5_lent_141 h
        · have h := niff q h
          refine nx_aload_n C0 0 dX5_lent_94 rfl ?_
          refine nx_gX5_now C0 hh0 hh1 dX5_lent_95 ?_
          refine nx_iload_n C0 1 dX5_lent_98 rfl ?_
          refine nx_iload C0 5 dX5_lent_99 rfl ?_
          obtain ⟨r4, c3, h⟩ := nbind h
          refine nx_cVi (ci := 4) (n := 2) (As := [.int a2, .int a7]) (st := []) C0 (mX4_takenFor l D B hB nT1 a2 a7 σ c3) gX5_lent_X4_takenFor rfl rfl rfl ndX4_takenFor ⟨Nat.le_of_ble_eq_true rfl, Nat.le_of_ble_eq_true rfl⟩ (by have := nT_lt nT1; omega) (nT_e nT1 _) rfl rfl rfl (Nat.le_of_ble_eq_true rfl) rfl dX5_lent_101 ?_
          refine nx_iload C0 3 dX5_lent_104 rfl ?_
          refine nx_iand C0 dX5_lent_106 ?_
          refine nx_iload C0 3 dX5_lent_107 rfl ?_
          refine nx_icmp_ne (tgt := 121) C0 dX5_lent_109 (by decide) (fun q => ?_) (fun q => ?_)
          · have h := niff q h
            obtain ⟨v5, ev5, h⟩ := nlet h
            refine nx_iinc (v := v5) (lv' := [(7, .int v5), (0, .ref (na B 0)), (2, .int a2), (3, .int a3), (5, .int a5), (6, .int a6)]) C0 5 dX5_lent_121 rfl ev5 (by decide) rfl ?_
            refine nx_goto (tgt := 82) C0 dX5_lent_124 (by decide) ?_
            refine nx_lv (lv' := [(0, .ref (na B 0)), (2, .int a2), (3, .int a3), (5, .int a5), (6, .int a6), (7, .int v5)]) [1, 2, 3, 4, 5, 0] rfl ?_
            exact ih a2 a3 a5 a6 v5 h
          · have h := nift q h
            refine nx_iload C0 4 dX5_lent_112 rfl ?_
            refine nx_iconst (v := 1) C0 dX5_lent_114 (by decide) ?_
            refine nx_iload C0 5 dX5_lent_115 rfl ?_
            refine nx_ishl C0 dX5_lent_117 ?_
            refine nx_ior C0 dX5_lent_118 ?_
            obtain ⟨v6, ev6, h⟩ := nlet h
            refine nx_istore (i := 6) (y := v6) (lv' := [(6, .int v6), (0, .ref (na B 0)), (2, .int a2), (3, .int a3), (5, .int a5), (7, .int a7)]) C0 dX5_lent_119 (by decide) ev6 rfl ?_
            obtain ⟨v7, ev7, h⟩ := nlet h
            refine nx_iinc (v := v7) (lv' := [(7, .int v7), (6, .int v6), (0, .ref (na B 0)), (2, .int a2), (3, .int a3), (5, .int a5)]) C0 5 dX5_lent_121 rfl ev7 (by decide) rfl ?_
            refine nx_goto (tgt := 82) C0 dX5_lent_124 (by decide) ?_
            refine nx_lv (lv' := [(0, .ref (na B 0)), (2, .int a2), (3, .int a3), (5, .int a5), (6, .int v6), (7, .int v7)]) [2, 3, 4, 5, 1, 0] rfl ?_
            exact ih a2 a3 a5 v6 v7 h
  refine nx_lv (lv' := [(0, .ref (na B 0)), (1, .int x1), (2, .int x2), (3, .int x3)]) [0, 1, 2, 3] rfl ?_
  rw [fX5_lent] at h
  refine nx_iload_n C0 1 dX5_lent_0 rfl ?_
  obtain ⟨r9, c8, h⟩ := nbind h
  refine nx_cSi (n := 1) (As := [.int x1]) (st := []) C0 (mX5_isShelf l D B hB x1 σ c8) gX5_lent_X5_isShelf rfl rfl rfl ndX5_isShelf ⟨Nat.le_of_ble_eq_true rfl, Nat.le_of_ble_eq_true rfl⟩ rfl (Nat.le_of_ble_eq_true rfl) rfl dX5_lent_1 ?_
  refine nx_if_eq (tgt := 27) C0 dX5_lent_4 (by decide) (fun q => ?_) (fun q => ?_)
  · have h := nift q h
    refine nx_iconst (v := -1) C0 dX5_lent_27 (by decide) ?_
    exact nr_i C0 hr dX5_lent_28 h
  · have h := niff q h
    refine nx_aload_n C0 0 dX5_lent_7 rfl ?_
    refine nx_gX5_now C0 hh0 hh1 dX5_lent_8 ?_
    refine nx_iload_n C0 2 dX5_lent_11 rfl ?_
    obtain ⟨r11, c10, h⟩ := nbind h
    refine nx_cVi (ci := 4) (n := 1) (As := [.int x2]) (st := []) C0 (mX4_isPerson l D B hB nT1 x2 σ c10) gX5_lent_X4_isPerson rfl rfl rfl ndX4_isPerson ⟨Nat.le_of_ble_eq_true rfl, Nat.le_of_ble_eq_true rfl⟩ (by have := nT_lt nT1; omega) (nT_e nT1 _) rfl rfl rfl (Nat.le_of_ble_eq_true rfl) rfl dX5_lent_12 ?_
    refine nx_if_eq (tgt := 27) C0 dX5_lent_15 (by decide) (fun q => ?_) (fun q => ?_)
    · have h := nift q h
      refine nx_iconst (v := -1) C0 dX5_lent_27 (by decide) ?_
      exact nr_i C0 hr dX5_lent_28 h
    · have h := niff q h
      refine nx_iload_n C0 3 dX5_lent_18 rfl ?_
      refine nx_if_lt (tgt := 27) C0 dX5_lent_19 (by decide) (fun q => ?_) (fun q => ?_)
      · have h := nift q h
        refine nx_iconst (v := -1) C0 dX5_lent_27 (by decide) ?_
        exact nr_i C0 hr dX5_lent_28 h
      · have h := niff q h
        refine nx_iload_n C0 3 dX5_lent_22 rfl ?_
        refine nx_iconst (v := 1) C0 dX5_lent_23 (by decide) ?_
        refine nx_icmp_le (tgt := 29) C0 dX5_lent_24 (by decide) (fun q => ?_) (fun q => ?_)
        · have h := nift q h
          refine nx_aload_n C0 0 dX5_lent_29 rfl ?_
          refine nx_gX5_shelves C0 hh0 hh4 dX5_lent_30 ?_
          refine nx_iload_n C0 1 dX5_lent_33 rfl ?_
          obtain ⟨g12, h⟩ := nguard h
          refine nx_aldS C0 g12 dX5_lent_34 ?_
          refine nx_iconst (v := 2) C0 dX5_lent_35 (by decide) ?_
          obtain ⟨r14, c13, h⟩ := nbind h
          refine nx_cVi (ci := 1) (n := 1) (As := [.int (2 : Int32)]) (st := []) C0 (mX1_refusal l D B hB (nSh_of g12) (2 : Int32) σ c13) gX5_lent_X1_refusal rfl rfl rfl ndX1_refusal ⟨Nat.le_of_ble_eq_true rfl, Nat.le_of_ble_eq_true rfl⟩ (by have := nSh_lt (nSh_of g12); omega) (nSh_e (nSh_of g12) _) rfl rfl rfl (Nat.le_of_ble_eq_true rfl) rfl dX5_lent_36 ?_
          refine nx_istore (i := 4) (y := r14) (lv' := [(4, .int r14), (0, .ref (na B 0)), (1, .int x1), (2, .int x2), (3, .int x3)]) C0 dX5_lent_39 (by decide) rfl rfl ?_
          refine nx_iload C0 0 dX5_lent_41 rfl ?_
          refine nx_if_eq (tgt := 49) C0 dX5_lent_43 (by decide) (fun q => ?_) (fun q => ?_)
          · have h := nift q h
            refine nx_aload_n C0 1 dX5_lent_49 rfl ?_
            refine nx_aload_n C0 1 dX5_lent_50 rfl ?_
            refine nx_gX5_shelves C0 hh0 hh4 dX5_lent_51 ?_
            refine nx_iload_n C0 2 dX5_lent_54 rfl ?_
            obtain ⟨g15, h⟩ := nguard h
            refine nx_aldS C0 g15 dX5_lent_55 ?_
            obtain ⟨r17, c16, h⟩ := nbind h
            refine nx_cVi (ci := 5) (n := 1) (As := [.ref (na B (29 + 2 * (x1).toNatClampNeg))]) (st := []) C0 (mX5_tellsGoods l D B hB (nSh_of g15) σ c16) gX5_lent_X5_tellsGoods rfl rfl rfl ndX5_tellsGoods ⟨Nat.le_of_ble_eq_true rfl, Nat.le_of_ble_eq_true rfl⟩ (by decide) rfl rfl rfl rfl (Nat.le_of_ble_eq_true rfl) rfl dX5_lent_56 ?_
            refine nx_if_ne (tgt := 65) C0 dX5_lent_59 (by decide) (fun q => ?_) (fun q => ?_)
            · have h := niff q h
              refine nx_aload_n C0 1 dX5_lent_65 rfl ?_
              refine nx_gX5_shelves C0 hh0 hh4 dX5_lent_66 ?_
              refine nx_iload_n C0 2 dX5_lent_69 rfl ?_
              obtain ⟨g18, h⟩ := nguard h
              refine nx_aldS C0 g18 dX5_lent_70 ?_
              obtain ⟨r20, c19, h⟩ := nbind h
              refine nx_cSi (n := 1) (As := [.ref (na B (29 + 2 * (x1).toNatClampNeg))]) (st := []) C0 (mX5_bitsOf l D B hB (nSh_of g18) σ c19) gX5_lent_X5_bitsOf rfl rfl rfl ndX5_bitsOf ⟨Nat.le_of_ble_eq_true rfl, Nat.le_of_ble_eq_true rfl⟩ rfl (Nat.le_of_ble_eq_true rfl) rfl dX5_lent_71 ?_
              refine nx_istore (i := 5) (y := r20) (lv' := [(5, .int r20), (4, .int r14), (0, .ref (na B 0)), (1, .int x1), (2, .int x2), (3, .int x3)]) C0 dX5_lent_74 (by decide) rfl rfl ?_
              refine nx_iconst (v := 0) C0 dX5_lent_76 (by decide) ?_
              refine nx_istore (i := 6) (y := (0 : Int32)) (lv' := [(6, .int (0 : Int32)), (5, .int r20), (4, .int r14), (0, .ref (na B 0)), (1, .int x1), (2, .int x2), (3, .int x3)]) C0 dX5_lent_77 (by decide) rfl rfl ?_
              refine nx_iconst (v := 0) C0 dX5_lent_79 (by decide) ?_
              refine nx_istore (i := 7) (y := (0 : Int32)) (lv' := [(7, .int (0 : Int32)), (6, .int (0 : Int32)), (5, .int r20), (4, .int r14), (0, .ref (na B 0)), (1, .int x1), (2, .int x2), (3, .int x3)]) C0 dX5_lent_80 (by decide) rfl rfl ?_
              refine nx_lv (lv' := [(0, .ref (na B 0)), (2, .int x2), (3, .int x3), (5, .int r20), (6, .int (0 : Int32)), (7, .int (0 : Int32))]) [4, 6, 7, 2, 1, 0] rfl ?_
              exact hfX5_lent_b82 4096 x2 x3 r20 (0 : Int32) (0 : Int32) h
            · have h := nift q h
              refine nx_bipush (v := -13) C0 dX5_lent_62 (by decide) ?_
              exact nr_i C0 hr dX5_lent_64 h
          · have h := niff q h
            refine nx_iload C0 0 dX5_lent_46 rfl ?_
            exact nr_i C0 hr dX5_lent_48 h
        · have h := niff q h
          refine nx_iconst (v := -1) C0 dX5_lent_27 (by decide) ?_
          exact nr_i C0 hr dX5_lent_28 h
def rmX5_isWorthAsTold : Room := { frames := 1, cells := 0, slots := 0, locals := 28 }
theorem ndX5_isWorthAsTold : yX5_isWorthAsTold.cls = RX5 ∧ yX5_isWorthAsTold.cls ≠ "java/lang/invoke/MethodHandle" ∧ yX5_isWorthAsTold.cls ≠ "java/lang/invoke/VarHandle" ∧ (parseMethodDescriptor yX5_isWorthAsTold.desc).map (fun d => d.parameters.length) = some 4 := by decide +kernel
set_option maxRecDepth 100000 in
set_option maxHeartbeats 4000000 in
theorem mX5_isWorthAsTold (l : Launch) (D : va_G) (B : nBT) (hB : nInj B) {k1 : Nat} (hk1 : nSh k1) (x2 : Int32) (x3 : Int32) (x4 : Int32) (σ : nS) {r : Int32}  (h : fX5_isWorthAsTold k1 x2 x3 x4 σ = some r) : nMi l D B yX5_isWorthAsTold wsX5_isWorthAsTold rmX5_isWorthAsTold [.ref (na B 0), .ref (na B k1), .int x2, .int x3, .int x4] σ r σ := by
  refine nmet (cc := cX5_isWorthAsTold) (maxL := 6) (ret := (some .boolean)) (own := RX5) (av := [.ref (na B 0), .ref (na B k1), .int x2, .int x3, .int x4]) (nQi D B r σ) hB (by decide) rfl rfl (Nat.le_of_ble_eq_true rfl) (fun p e s m args below meth c C0 hr => ?_)
  have hh0 : ∀ w ∈ wsX10, w ∈ wsX5_isWorthAsTold := by decide +kernel
  have hh1 := C0.2.2.2.2.1 (Cond.fieldLink RX5 70 "NotInTheCoin$Shelf" "size" "I") (by decide +kernel)
  have hh2 := C0.2.2.2.2.1 (Cond.fieldLink RX5 77 "NotInTheCoin$Shelf" "cells" "[I") (by decide +kernel)
  have hh3 : ∀ w ∈ wsX50, w ∈ wsX5_isWorthAsTold := by decide +kernel
  have hh4 := C0.2.2.2.2.1 (Cond.fieldLink RX5 10 "NotInTheCoin" "now" "LNotInTheCoin$Town;") (by decide +kernel)
  have hh5 : ∀ w ∈ wsX40, w ∈ wsX5_isWorthAsTold := by decide +kernel
  have hh6 := C0.2.2.2.2.1 (Cond.fieldLink RX5 271 "NotInTheCoin$Town" "week" "I") (by decide +kernel)
  have hfX5_isWorthAsTold_b3 : ∀  (n : Nat) (k_1 : Nat) (hk_1 : nSh k_1) (a2 : Int32) (a3 : Int32) (a4 : Int32) (a5 : Int32) (h : fX5_isWorthAsTold_b3  n k_1 a2 a3 a4 a5 σ = some r), nJ p l e rmX5_isWorthAsTold s m args below meth c 0 0 (MQ below (nQi D B r σ s.heap.size) args s 0 0 (nA B s.heap.size)) D B 6 3 [(0, .ref (na B 0)), (1, .ref (na B k_1)), (2, .int a2), (3, .int a3), (4, .int a4), (5, .int a5)] [] σ := by
    intro  n
    induction n with
    | zero => intro k_1 hk_1 a2 a3 a4 a5 h; cases h
    | succ n ih =>
        intro k_1 hk_1 a2 a3 a4 a5 h
        rw [fX5_isWorthAsTold_b3] at h
        refine nx_iload C0 5 dX5_isWorthAsTold_3 rfl ?_
        refine nx_aload_n C0 1 dX5_isWorthAsTold_5 rfl ?_
        refine nx_gX1_size C0 hk_1 hh0 hh1 dX5_isWorthAsTold_6 ?_
        refine nx_icmp_ge (tgt := 56) C0 dX5_isWorthAsTold_9 (by decide) (fun q => ?_) (fun q => ?_)
        · have h := nift q h
          refine nx_iconst (v := 1) C0 dX5_isWorthAsTold_56 (by decide) ?_
          exact nr_z C0 hr (Or.inr rfl) dX5_isWorthAsTold_57 h
        · have h := niff q h
          refine nx_aload_n C0 1 dX5_isWorthAsTold_12 rfl ?_
          refine nx_iload C0 5 dX5_isWorthAsTold_13 rfl ?_
          obtain ⟨r2, c1, h⟩ := nbind h
          refine nx_cVi (ci := 1) (n := 1) (As := [.int a5]) (st := []) C0 (mX1_isSkipped l D B hB hk_1 a5 σ c1) gX5_isWorthAsTold_X1_isSkipped rfl rfl rfl ndX1_isSkipped ⟨Nat.le_of_ble_eq_true rfl, Nat.le_of_ble_eq_true rfl⟩ (by have := nSh_lt hk_1; omega) (nSh_e hk_1 _) rfl rfl rfl (Nat.le_of_ble_eq_true rfl) rfl dX5_isWorthAsTold_15 ?_
          refine nx_if_ne (tgt := 50) C0 dX5_isWorthAsTold_18 (by decide) (fun q => ?_) (fun q => ?_)
          · have h := niff q h
            obtain ⟨v3, ev3, h⟩ := nlet h
            refine nx_iinc (v := v3) (lv' := [(5, .int v3), (0, .ref (na B 0)), (1, .ref (na B k_1)), (2, .int a2), (3, .int a3), (4, .int a4)]) C0 5 dX5_isWorthAsTold_50 rfl ev3 (by decide) rfl ?_
            refine nx_goto (tgt := 3) C0 dX5_isWorthAsTold_53 (by decide) ?_
            refine nx_lv (lv' := [(0, .ref (na B 0)), (1, .ref (na B k_1)), (2, .int a2), (3, .int a3), (4, .int a4), (5, .int v3)]) [1, 2, 3, 4, 5, 0] rfl ?_
            exact ih k_1 hk_1 a2 a3 a4 v3 h
          · have h := nift q h
            refine nx_aload_n C0 1 dX5_isWorthAsTold_21 rfl ?_
            refine nx_gX1_cells C0 hk_1 hh0 hh2 dX5_isWorthAsTold_22 ?_
            refine nx_iload C0 5 dX5_isWorthAsTold_25 rfl ?_
            obtain ⟨g4, h⟩ := nguard h
            refine nx_iald C0 (nSh_c hk_1) g4 dX5_isWorthAsTold_27 ?_
            refine nx_iload_n C0 2 dX5_isWorthAsTold_28 rfl ?_
            refine nx_iload_n C0 3 dX5_isWorthAsTold_29 rfl ?_
            refine nx_iload C0 4 dX5_isWorthAsTold_30 rfl ?_
            refine nx_aload_n C0 0 dX5_isWorthAsTold_32 rfl ?_
            refine nx_gX5_now C0 hh3 hh4 dX5_isWorthAsTold_33 ?_
            refine nx_gX4_week C0 nT1 hh5 hh6 dX5_isWorthAsTold_36 ?_
            refine nx_iload C0 5 dX5_isWorthAsTold_39 rfl ?_
            refine nx_iadd C0 dX5_isWorthAsTold_41 ?_
            obtain ⟨r6, c5, h⟩ := nbind h
            refine nx_cSi (n := 4) (As := [.int a2, .int a3, .int a4, .int ((σ 1 12) + a5)]) (st := [.int (σ (k_1 + 1) (a5).toNatClampNeg)]) C0 (mX5_worthOf l D B hB a2 a3 a4 ((σ 1 12) + a5) σ c5) gX5_isWorthAsTold_X5_worthOf rfl rfl rfl ndX5_worthOf ⟨Nat.le_of_ble_eq_true rfl, Nat.le_of_ble_eq_true rfl⟩ rfl (Nat.le_of_ble_eq_true rfl) rfl dX5_isWorthAsTold_42 ?_
            refine nx_icmp_eq (tgt := 50) C0 dX5_isWorthAsTold_45 (by decide) (fun q => ?_) (fun q => ?_)
            · have h := nift q h
              obtain ⟨v7, ev7, h⟩ := nlet h
              refine nx_iinc (v := v7) (lv' := [(5, .int v7), (0, .ref (na B 0)), (1, .ref (na B k_1)), (2, .int a2), (3, .int a3), (4, .int a4)]) C0 5 dX5_isWorthAsTold_50 rfl ev7 (by decide) rfl ?_
              refine nx_goto (tgt := 3) C0 dX5_isWorthAsTold_53 (by decide) ?_
              refine nx_lv (lv' := [(0, .ref (na B 0)), (1, .ref (na B k_1)), (2, .int a2), (3, .int a3), (4, .int a4), (5, .int v7)]) [1, 2, 3, 4, 5, 0] rfl ?_
              exact ih k_1 hk_1 a2 a3 a4 v7 h
            · have h := niff q h
              refine nx_iconst (v := 0) C0 dX5_isWorthAsTold_48 (by decide) ?_
              exact nr_z C0 hr (Or.inl rfl) dX5_isWorthAsTold_49 h
  refine nx_lv (lv' := [(0, .ref (na B 0)), (1, .ref (na B k1)), (2, .int x2), (3, .int x3), (4, .int x4)]) [0, 1, 2, 3, 4] rfl ?_
  rw [fX5_isWorthAsTold] at h
  refine nx_iconst (v := 0) C0 dX5_isWorthAsTold_0 (by decide) ?_
  refine nx_istore (i := 5) (y := (0 : Int32)) (lv' := [(5, .int (0 : Int32)), (0, .ref (na B 0)), (1, .ref (na B k1)), (2, .int x2), (3, .int x3), (4, .int x4)]) C0 dX5_isWorthAsTold_1 (by decide) rfl rfl ?_
  refine nx_lv (lv' := [(0, .ref (na B 0)), (1, .ref (na B k1)), (2, .int x2), (3, .int x3), (4, .int x4), (5, .int (0 : Int32))]) [1, 2, 3, 4, 5, 0] rfl ?_
  exact hfX5_isWorthAsTold_b3 4096 k1 hk1 x2 x3 x4 (0 : Int32) h
def rmX5_whatIs : Room := { frames := 2, cells := 0, slots := 0, locals := 53 }
theorem ndX5_whatIs : yX5_whatIs.cls = RX5 ∧ yX5_whatIs.cls ≠ "java/lang/invoke/MethodHandle" ∧ yX5_whatIs.cls ≠ "java/lang/invoke/VarHandle" ∧ (parseMethodDescriptor yX5_whatIs.desc).map (fun d => d.parameters.length) = some 4 := by decide +kernel
set_option maxRecDepth 100000 in
set_option maxHeartbeats 4000000 in
theorem mX5_whatIs (l : Launch) (D : va_G) (B : nBT) (hB : nInj B) (x1 : Int32) (x2 : Int32) (x3 : Int32) (x4 : Int32) (σ : nS) {r : Int32}  (h : fX5_whatIs x1 x2 x3 x4 σ = some r) : nMi l D B yX5_whatIs wsX5_whatIs rmX5_whatIs [.ref (na B 0), .int x1, .int x2, .int x3, .int x4] σ r σ := by
  refine nmet (cc := cX5_whatIs) (maxL := 11) (ret := (some .int)) (own := RX5) (av := [.ref (na B 0), .int x1, .int x2, .int x3, .int x4]) (nQi D B r σ) hB (by decide) rfl rfl (Nat.le_of_ble_eq_true rfl) (fun p e s m args below meth c C0 hr => ?_)
  have hh0 : ∀ w ∈ wsX50, w ∈ wsX5_whatIs := by decide +kernel
  have hh1 := C0.2.2.2.2.1 (Cond.fieldLink RX5 24 "NotInTheCoin" "shelves" "[LNotInTheCoin$Shelf;") (by decide +kernel)
  have hh2 := C0.2.2.2.2.1 (Cond.fieldLink RX5 10 "NotInTheCoin" "now" "LNotInTheCoin$Town;") (by decide +kernel)
  have hh3 : ∀ w ∈ wsX40, w ∈ wsX5_whatIs := by decide +kernel
  have hh4 := C0.2.2.2.2.1 (Cond.fieldLink RX5 102 "NotInTheCoin$Town" "tasteOf" "[I") (by decide +kernel)
  have hh5 := C0.2.2.2.2.1 (Cond.fieldLink RX5 90 "NotInTheCoin$Town" "figureOf" "[I") (by decide +kernel)
  have hh6 := C0.2.2.2.2.1 (Cond.fieldLink RX5 87 "NotInTheCoin$Town" "kindOf" "[I") (by decide +kernel)
  have hfX5_whatIs_b129 : ∀ (s82 : Int32 → Int32 → Int32 → Int32 → Int32 → Int32 → Int32 → nS → Option Int32) (hs82 : ∀ (a1 : Int32) (a2 : Int32) (a3 : Int32) (a4 : Int32) (a6 : Int32) (a7 : Int32) (a8 : Int32), s82 a1 a2 a3 a4 a6 a7 a8 σ = some r → nJ p l e rmX5_whatIs s m args below meth c 0 0 (MQ below (nQi D B r σ s.heap.size) args s 0 0 (nA B s.heap.size)) D B 11 82 [(0, .ref (na B 0)), (1, .int a1), (2, .int a2), (3, .int a3), (4, .int a4), (6, .int a6), (7, .int a7), (8, .int a8)] [] σ) (a1 : Int32) (a2 : Int32) (a3 : Int32) (a4 : Int32) (a6 : Int32) (a7 : Int32) (a8 : Int32) (a9 : Int32) (z0 : Int32) (h : fX5_whatIs_b129 s82 a1 a2 a3 a4 a6 a7 a8 a9 z0 σ = some r), nJ p l e rmX5_whatIs s m args below meth c 0 0 (MQ below (nQi D B r σ s.heap.size) args s 0 0 (nA B s.heap.size)) D B 11 129 [(0, .ref (na B 0)), (1, .int a1), (2, .int a2), (3, .int a3), (4, .int a4), (6, .int a6), (7, .int a7), (8, .int a8), (9, .int a9)] [.int z0] σ := by
    intro s82 hs82 a1 a2 a3 a4 a6 a7 a8 a9 z0 h
    rw [fX5_whatIs_b129] at h
    refine nx_istore (i := 10) (y := z0) (lv' := [(10, .int z0), (0, .ref (na B 0)), (1, .int a1), (2, .int a2), (3, .int a3), (4, .int a4), (6, .int a6), (7, .int a7), (8, .int a8), (9, .int a9)]) C0 dX5_whatIs_129 (by decide) rfl rfl ?_
    refine nx_aload_n C0 1 dX5_whatIs_131 rfl ?_
    refine nx_aload_n C0 1 dX5_whatIs_132 rfl ?_
    refine nx_gX5_shelves C0 hh0 hh1 dX5_whatIs_133 ?_
    refine nx_iload_n C0 2 dX5_whatIs_136 rfl ?_
    obtain ⟨g1, h⟩ := nguard h
    refine nx_aldS C0 g1 dX5_whatIs_137 ?_
    refine nx_iload C0 9 dX5_whatIs_138 rfl ?_
    refine nx_iload C0 0 dX5_whatIs_140 rfl ?_
    refine nx_aload_n C0 1 dX5_whatIs_142 rfl ?_
    refine nx_gX5_now C0 hh0 hh2 dX5_whatIs_143 ?_
    refine nx_gX4_tasteOf C0 nT1 hh3 hh4 dX5_whatIs_146 ?_
    refine nx_iload_n C0 3 dX5_whatIs_149 rfl ?_
    obtain ⟨g2, h⟩ := nguard h
    refine nx_iald C0 (nT_a4 nT1) g2 dX5_whatIs_150 ?_
    obtain ⟨r4, c3, h⟩ := nbind h
    refine nx_cVi (ci := 5) (n := 4) (As := [.ref (na B (29 + 2 * (a1).toNatClampNeg)), .int a9, .int z0, .int (σ (1 + 4) (a2).toNatClampNeg)]) (st := []) C0 (mX5_isWorthAsTold l D B hB (nSh_of g1) a9 z0 (σ (1 + 4) (a2).toNatClampNeg) σ c3) gX5_whatIs_X5_isWorthAsTold rfl rfl rfl ndX5_isWorthAsTold ⟨Nat.le_of_ble_eq_true rfl, Nat.le_of_ble_eq_true rfl⟩ (by decide) rfl rfl rfl rfl (Nat.le_of_ble_eq_true rfl) rfl dX5_whatIs_151 ?_
    refine nx_if_eq (tgt := 166) C0 dX5_whatIs_154 (by decide) (fun q => ?_) (fun q => ?_)
    · have h := nift q h
      obtain ⟨v5, ev5, h⟩ := nlet h
      refine nx_iinc (v := v5) (lv' := [(8, .int v5), (10, .int z0), (0, .ref (na B 0)), (1, .int a1), (2, .int a2), (3, .int a3), (4, .int a4), (6, .int a6), (7, .int a7), (9, .int a9)]) C0 8 dX5_whatIs_166 rfl ev5 (by decide) rfl ?_
      refine nx_goto (tgt := 82) C0 dX5_whatIs_169 (by decide) ?_
      refine nx_lv (lv' := [(0, .ref (na B 0)), (1, .int a1), (2, .int a2), (3, .int a3), (4, .int a4), (6, .int a6), (7, .int a7), (8, .int v5)]) [2, 3, 4, 5, 6, 7, 8, 0] rfl ?_
      exact hs82 a1 a2 a3 a4 a6 a7 v5 h
    · have h := niff q h
      refine nx_iload C0 6 dX5_whatIs_157 rfl ?_
      refine nx_iconst (v := 1) C0 dX5_whatIs_159 (by decide) ?_
      refine nx_iload C0 8 dX5_whatIs_160 rfl ?_
      refine nx_ishl C0 dX5_whatIs_162 ?_
      refine nx_ior C0 dX5_whatIs_163 ?_
      obtain ⟨v6, ev6, h⟩ := nlet h
      refine nx_istore (i := 6) (y := v6) (lv' := [(6, .int v6), (10, .int z0), (0, .ref (na B 0)), (1, .int a1), (2, .int a2), (3, .int a3), (4, .int a4), (7, .int a7), (8, .int a8), (9, .int a9)]) C0 dX5_whatIs_164 (by decide) ev6 rfl ?_
      obtain ⟨v7, ev7, h⟩ := nlet h
      refine nx_iinc (v := v7) (lv' := [(8, .int v7), (6, .int v6), (10, .int z0), (0, .ref (na B 0)), (1, .int a1), (2, .int a2), (3, .int a3), (4, .int a4), (7, .int a7), (9, .int a9)]) C0 8 dX5_whatIs_166 rfl ev7 (by decide) rfl ?_
      refine nx_goto (tgt := 82) C0 dX5_whatIs_169 (by decide) ?_
      refine nx_lv (lv' := [(0, .ref (na B 0)), (1, .int a1), (2, .int a2), (3, .int a3), (4, .int a4), (6, .int v6), (7, .int a7), (8, .int v7)]) [3, 4, 5, 6, 7, 1, 8, 0] rfl ?_
      exact hs82 a1 a2 a3 a4 v6 a7 v7 h
  have hfX5_whatIs_b108 : ∀ (s82 : Int32 → Int32 → Int32 → Int32 → Int32 → Int32 → Int32 → nS → Option Int32) (hs82 : ∀ (a1 : Int32) (a2 : Int32) (a3 : Int32) (a4 : Int32) (a6 : Int32) (a7 : Int32) (a8 : Int32), s82 a1 a2 a3 a4 a6 a7 a8 σ = some r → nJ p l e rmX5_whatIs s m args below meth c 0 0 (MQ below (nQi D B r σ s.heap.size) args s 0 0 (nA B s.heap.size)) D B 11 82 [(0, .ref (na B 0)), (1, .int a1), (2, .int a2), (3, .int a3), (4, .int a4), (6, .int a6), (7, .int a7), (8, .int a8)] [] σ) (a1 : Int32) (a2 : Int32) (a3 : Int32) (a4 : Int32) (a6 : Int32) (a7 : Int32) (a8 : Int32) (z0 : Int32) (h : fX5_whatIs_b108 s82 a1 a2 a3 a4 a6 a7 a8 z0 σ = some r), nJ p l e rmX5_whatIs s m args below meth c 0 0 (MQ below (nQi D B r σ s.heap.size) args s 0 0 (nA B s.heap.size)) D B 11 108 [(0, .ref (na B 0)), (1, .int a1), (2, .int a2), (3, .int a3), (4, .int a4), (6, .int a6), (7, .int a7), (8, .int a8)] [.int z0] σ := by
    intro s82 hs82 a1 a2 a3 a4 a6 a7 a8 z0 h
    rw [fX5_whatIs_b108] at h
    refine nx_istore (i := 9) (y := z0) (lv' := [(9, .int z0), (0, .ref (na B 0)), (1, .int a1), (2, .int a2), (3, .int a3), (4, .int a4), (6, .int a6), (7, .int a7), (8, .int a8)]) C0 dX5_whatIs_108 (by decide) rfl rfl ?_
    refine nx_iload C0 5 dX5_whatIs_110 rfl ?_
    refine nx_if_ne (tgt := 127) C0 dX5_whatIs_112 (by decide) (fun q => ?_) (fun q => ?_)
    · have h := niff q h
      refine nx_iload C0 8 dX5_whatIs_127 rfl ?_
      refine nx_lv (lv' := [(0, .ref (na B 0)), (1, .int a1), (2, .int a2), (3, .int a3), (4, .int a4), (6, .int a6), (7, .int a7), (8, .int a8), (9, .int z0)]) [1, 2, 3, 4, 5, 6, 7, 8, 0] rfl ?_
      exact hfX5_whatIs_b129 s82 hs82 a1 a2 a3 a4 a6 a7 a8 z0 a8 h
    · have h := nift q h
      refine nx_aload_n C0 1 dX5_whatIs_115 rfl ?_
      refine nx_gX5_now C0 hh0 hh2 dX5_whatIs_116 ?_
      refine nx_gX4_figureOf C0 nT1 hh3 hh5 dX5_whatIs_119 ?_
      refine nx_iload_n C0 4 dX5_whatIs_122 rfl ?_
      obtain ⟨g8, h⟩ := nguard h
      refine nx_iald C0 (nT_a2 nT1) g8 dX5_whatIs_123 ?_
      refine nx_goto (tgt := 129) C0 dX5_whatIs_124 (by decide) ?_
      refine nx_lv (lv' := [(0, .ref (na B 0)), (1, .int a1), (2, .int a2), (3, .int a3), (4, .int a4), (6, .int a6), (7, .int a7), (8, .int a8), (9, .int z0)]) [1, 2, 3, 4, 5, 6, 7, 8, 0] rfl ?_
      exact hfX5_whatIs_b129 s82 hs82 a1 a2 a3 a4 a6 a7 a8 z0 (σ (1 + 2) (a3).toNatClampNeg) h
  have hfX5_whatIs_b82 : ∀  (n : Nat) (a1 : Int32) (a2 : Int32) (a3 : Int32) (a4 : Int32) (a6 : Int32) (a7 : Int32) (a8 : Int32) (h : fX5_whatIs_b82  n a1 a2 a3 a4 a6 a7 a8 σ = some r), nJ p l e rmX5_whatIs s m args below meth c 0 0 (MQ below (nQi D B r σ s.heap.size) args s 0 0 (nA B s.heap.size)) D B 11 82 [(0, .ref (na B 0)), (1, .int a1), (2, .int a2), (3, .int a3), (4, .int a4), (6, .int a6), (7, .int a7), (8, .int a8)] [] σ := by
    intro  n
    induction n with
    | zero => intro a1 a2 a3 a4 a6 a7 a8 h; cases h
    | succ n ih =>
        intro a1 a2 a3 a4 a6 a7 a8 h
        rw [fX5_whatIs_b82] at h
        refine nx_iload C0 7 dX5_whatIs_82 rfl ?_
        refine nx_iload C0 6 dX5_whatIs_84 rfl ?_
        refine nx_icmp_ge (tgt := 172) C0 dX5_whatIs_86 (by decide) (fun q => ?_) (fun q => ?_)
        · have h := nift q h
          refine nx_iload C0 5 dX5_whatIs_172 rfl ?_
          exact nr_i C0 hr dX5_whatIs_174 h
        · have h := niff q h
          refine nx_iload C0 4 dX5_whatIs_89 rfl ?_
          refine nx_if_ne (tgt := 99) C0 dX5_whatIs_91 (by decide) (fun q => ?_) (fun q => ?_)
          · have h := niff q h
            refine nx_aload_n C0 0 dX5_whatIs_99 rfl ?_
            refine nx_gX5_now C0 hh0 hh2 dX5_whatIs_100 ?_
            refine nx_gX4_kindOf C0 nT1 hh3 hh6 dX5_whatIs_103 ?_
            refine nx_iload_n C0 3 dX5_whatIs_106 rfl ?_
            obtain ⟨g9, h⟩ := nguard h
            refine nx_iald C0 (nT_a1 nT1) g9 dX5_whatIs_107 ?_
            exact hfX5_whatIs_b108 (fX5_whatIs_b82 n) ih a1 a2 a3 a4 a6 a7 a8 (σ (1 + 1) (a3).toNatClampNeg) h
          · have h := nift q h
            refine nx_iload C0 7 dX5_whatIs_94 rfl ?_
            refine nx_goto (tgt := 108) C0 dX5_whatIs_96 (by decide) ?_
            exact hfX5_whatIs_b108 (fX5_whatIs_b82 n) ih a1 a2 a3 a4 a6 a7 a8 a8 h
  refine nx_lv (lv' := [(0, .ref (na B 0)), (1, .int x1), (2, .int x2), (3, .int x3), (4, .int x4)]) [0, 1, 2, 3, 4] rfl ?_
  rw [fX5_whatIs] at h
  refine nx_iload_n C0 1 dX5_whatIs_0 rfl ?_
  obtain ⟨r11, c10, h⟩ := nbind h
  refine nx_cSi (n := 1) (As := [.int x1]) (st := []) C0 (mX5_isShelf l D B hB x1 σ c10) gX5_whatIs_X5_isShelf rfl rfl rfl ndX5_isShelf ⟨Nat.le_of_ble_eq_true rfl, Nat.le_of_ble_eq_true rfl⟩ rfl (Nat.le_of_ble_eq_true rfl) rfl dX5_whatIs_1 ?_
  refine nx_if_eq (tgt := 40) C0 dX5_whatIs_4 (by decide) (fun q => ?_) (fun q => ?_)
  · have h := nift q h
    refine nx_iconst (v := -1) C0 dX5_whatIs_40 (by decide) ?_
    exact nr_i C0 hr dX5_whatIs_41 h
  · have h := niff q h
    refine nx_aload_n C0 0 dX5_whatIs_7 rfl ?_
    refine nx_gX5_now C0 hh0 hh2 dX5_whatIs_8 ?_
    refine nx_iload_n C0 2 dX5_whatIs_11 rfl ?_
    obtain ⟨r13, c12, h⟩ := nbind h
    refine nx_cVi (ci := 4) (n := 1) (As := [.int x2]) (st := []) C0 (mX4_isPerson l D B hB nT1 x2 σ c12) gX5_whatIs_X4_isPerson rfl rfl rfl ndX4_isPerson ⟨Nat.le_of_ble_eq_true rfl, Nat.le_of_ble_eq_true rfl⟩ (by have := nT_lt nT1; omega) (nT_e nT1 _) rfl rfl rfl (Nat.le_of_ble_eq_true rfl) rfl dX5_whatIs_12 ?_
    refine nx_if_eq (tgt := 40) C0 dX5_whatIs_15 (by decide) (fun q => ?_) (fun q => ?_)
    · have h := nift q h
      refine nx_iconst (v := -1) C0 dX5_whatIs_40 (by decide) ?_
      exact nr_i C0 hr dX5_whatIs_41 h
    · have h := niff q h
      refine nx_aload_n C0 0 dX5_whatIs_18 rfl ?_
      refine nx_gX5_now C0 hh0 hh2 dX5_whatIs_19 ?_
      refine nx_iload_n C0 3 dX5_whatIs_22 rfl ?_
      obtain ⟨r15, c14, h⟩ := nbind h
      refine nx_cVi (ci := 4) (n := 1) (As := [.int x3]) (st := []) C0 (mX4_isGoods l D B hB nT1 x3 σ c14) gX5_whatIs_X4_isGoods rfl rfl rfl ndX4_isGoods ⟨Nat.le_of_ble_eq_true rfl, Nat.le_of_ble_eq_true rfl⟩ (by have := nT_lt nT1; omega) (nT_e nT1 _) rfl rfl rfl (Nat.le_of_ble_eq_true rfl) rfl dX5_whatIs_23 ?_
      refine nx_if_eq (tgt := 40) C0 dX5_whatIs_26 (by decide) (fun q => ?_) (fun q => ?_)
      · have h := nift q h
        refine nx_iconst (v := -1) C0 dX5_whatIs_40 (by decide) ?_
        exact nr_i C0 hr dX5_whatIs_41 h
      · have h := niff q h
        refine nx_iload C0 4 dX5_whatIs_29 rfl ?_
        refine nx_if_lt (tgt := 40) C0 dX5_whatIs_31 (by decide) (fun q => ?_) (fun q => ?_)
        · have h := nift q h
          refine nx_iconst (v := -1) C0 dX5_whatIs_40 (by decide) ?_
          exact nr_i C0 hr dX5_whatIs_41 h
        · have h := niff q h
          refine nx_iload C0 4 dX5_whatIs_34 rfl ?_
          refine nx_iconst (v := 1) C0 dX5_whatIs_36 (by decide) ?_
          refine nx_icmp_le (tgt := 42) C0 dX5_whatIs_37 (by decide) (fun q => ?_) (fun q => ?_)
          · have h := nift q h
            refine nx_aload_n C0 0 dX5_whatIs_42 rfl ?_
            refine nx_gX5_shelves C0 hh0 hh1 dX5_whatIs_43 ?_
            refine nx_iload_n C0 1 dX5_whatIs_46 rfl ?_
            obtain ⟨g16, h⟩ := nguard h
            refine nx_aldS C0 g16 dX5_whatIs_47 ?_
            refine nx_iconst (v := 2) C0 dX5_whatIs_48 (by decide) ?_
            obtain ⟨r18, c17, h⟩ := nbind h
            refine nx_cVi (ci := 1) (n := 1) (As := [.int (2 : Int32)]) (st := []) C0 (mX1_refusal l D B hB (nSh_of g16) (2 : Int32) σ c17) gX5_whatIs_X1_refusal rfl rfl rfl ndX1_refusal ⟨Nat.le_of_ble_eq_true rfl, Nat.le_of_ble_eq_true rfl⟩ (by have := nSh_lt (nSh_of g16); omega) (nSh_e (nSh_of g16) _) rfl rfl rfl (Nat.le_of_ble_eq_true rfl) rfl dX5_whatIs_49 ?_
            refine nx_istore (i := 5) (y := r18) (lv' := [(5, .int r18), (0, .ref (na B 0)), (1, .int x1), (2, .int x2), (3, .int x3), (4, .int x4)]) C0 dX5_whatIs_52 (by decide) rfl rfl ?_
            refine nx_iload C0 0 dX5_whatIs_54 rfl ?_
            refine nx_if_eq (tgt := 62) C0 dX5_whatIs_56 (by decide) (fun q => ?_) (fun q => ?_)
            · have h := nift q h
              refine nx_iconst (v := 0) C0 dX5_whatIs_62 (by decide) ?_
              refine nx_istore (i := 6) (y := (0 : Int32)) (lv' := [(6, .int (0 : Int32)), (5, .int r18), (0, .ref (na B 0)), (1, .int x1), (2, .int x2), (3, .int x3), (4, .int x4)]) C0 dX5_whatIs_63 (by decide) rfl rfl ?_
              refine nx_iload C0 6 dX5_whatIs_65 rfl ?_
              refine nx_if_ne (tgt := 75) C0 dX5_whatIs_67 (by decide) (fun q => ?_) (fun q => ?_)
              · have h := niff q h
                refine nx_bipush (v := 10) C0 dX5_whatIs_75 (by decide) ?_
                refine nx_istore (i := 7) (y := (10 : Int32)) (lv' := [(7, .int (10 : Int32)), (6, .int (0 : Int32)), (5, .int r18), (0, .ref (na B 0)), (1, .int x1), (2, .int x2), (3, .int x3), (4, .int x4)]) C0 dX5_whatIs_77 (by decide) rfl rfl ?_
                refine nx_iconst (v := 0) C0 dX5_whatIs_79 (by decide) ?_
                refine nx_istore (i := 8) (y := (0 : Int32)) (lv' := [(8, .int (0 : Int32)), (7, .int (10 : Int32)), (6, .int (0 : Int32)), (5, .int r18), (0, .ref (na B 0)), (1, .int x1), (2, .int x2), (3, .int x3), (4, .int x4)]) C0 dX5_whatIs_80 (by decide) rfl rfl ?_
                refine nx_lv (lv' := [(0, .ref (na B 0)), (1, .int x1), (2, .int x2), (3, .int x3), (4, .int x4), (6, .int (0 : Int32)), (7, .int (10 : Int32)), (8, .int (0 : Int32))]) [4, 5, 6, 7, 8, 2, 1, 0] rfl ?_
                exact hfX5_whatIs_b82 4096 x1 x2 x3 x4 (0 : Int32) (10 : Int32) (0 : Int32) h
              · have h := nift q h
                refine nx_bipush (v := 8) C0 dX5_whatIs_70 (by decide) ?_
                refine nx_goto (tgt := 77) C0 dX5_whatIs_72 (by decide) ?_
                refine nx_istore (i := 7) (y := (8 : Int32)) (lv' := [(7, .int (8 : Int32)), (6, .int (0 : Int32)), (5, .int r18), (0, .ref (na B 0)), (1, .int x1), (2, .int x2), (3, .int x3), (4, .int x4)]) C0 dX5_whatIs_77 (by decide) rfl rfl ?_
                refine nx_iconst (v := 0) C0 dX5_whatIs_79 (by decide) ?_
                refine nx_istore (i := 8) (y := (0 : Int32)) (lv' := [(8, .int (0 : Int32)), (7, .int (8 : Int32)), (6, .int (0 : Int32)), (5, .int r18), (0, .ref (na B 0)), (1, .int x1), (2, .int x2), (3, .int x3), (4, .int x4)]) C0 dX5_whatIs_80 (by decide) rfl rfl ?_
                refine nx_lv (lv' := [(0, .ref (na B 0)), (1, .int x1), (2, .int x2), (3, .int x3), (4, .int x4), (6, .int (0 : Int32)), (7, .int (8 : Int32)), (8, .int (0 : Int32))]) [4, 5, 6, 7, 8, 2, 1, 0] rfl ?_
                exact hfX5_whatIs_b82 4096 x1 x2 x3 x4 (0 : Int32) (8 : Int32) (0 : Int32) h
            · have h := niff q h
              refine nx_iload C0 0 dX5_whatIs_59 rfl ?_
              exact nr_i C0 hr dX5_whatIs_61 h
          · have h := niff q h
            refine nx_iconst (v := -1) C0 dX5_whatIs_40 (by decide) ?_
            exact nr_i C0 hr dX5_whatIs_41 h
def rmX5_isTasteAsTold : Room := { frames := 1, cells := 0, slots := 0, locals := 28 }
theorem ndX5_isTasteAsTold : yX5_isTasteAsTold.cls = RX5 ∧ yX5_isTasteAsTold.cls ≠ "java/lang/invoke/MethodHandle" ∧ yX5_isTasteAsTold.cls ≠ "java/lang/invoke/VarHandle" ∧ (parseMethodDescriptor yX5_isTasteAsTold.desc).map (fun d => d.parameters.length) = some 2 := by decide +kernel
set_option maxRecDepth 100000 in
set_option maxHeartbeats 4000000 in
theorem mX5_isTasteAsTold (l : Launch) (D : va_G) (B : nBT) (hB : nInj B) {k1 : Nat} (hk1 : nSh k1) (x2 : Int32) (σ : nS) {r : Int32}  (h : fX5_isTasteAsTold k1 x2 σ = some r) : nMi l D B yX5_isTasteAsTold wsX5_isTasteAsTold rmX5_isTasteAsTold [.ref (na B 0), .ref (na B k1), .int x2] σ r σ := by
  refine nmet (cc := cX5_isTasteAsTold) (maxL := 4) (ret := (some .boolean)) (own := RX5) (av := [.ref (na B 0), .ref (na B k1), .int x2]) (nQi D B r σ) hB (by decide) rfl rfl (Nat.le_of_ble_eq_true rfl) (fun p e s m args below meth c C0 hr => ?_)
  have hh0 : ∀ w ∈ wsX10, w ∈ wsX5_isTasteAsTold := by decide +kernel
  have hh1 := C0.2.2.2.2.1 (Cond.fieldLink RX5 70 "NotInTheCoin$Shelf" "size" "I") (by decide +kernel)
  have hh2 : ∀ w ∈ wsX50, w ∈ wsX5_isTasteAsTold := by decide +kernel
  have hh3 := C0.2.2.2.2.1 (Cond.fieldLink RX5 10 "NotInTheCoin" "now" "LNotInTheCoin$Town;") (by decide +kernel)
  have hh4 : ∀ w ∈ wsX40, w ∈ wsX5_isTasteAsTold := by decide +kernel
  have hh5 := C0.2.2.2.2.1 (Cond.fieldLink RX5 230 "NotInTheCoin$Town" "goods" "I") (by decide +kernel)
  have hh6 := C0.2.2.2.2.1 (Cond.fieldLink RX5 77 "NotInTheCoin$Shelf" "cells" "[I") (by decide +kernel)
  have hh7 := C0.2.2.2.2.1 (Cond.fieldLink RX5 87 "NotInTheCoin$Town" "kindOf" "[I") (by decide +kernel)
  have hh8 := C0.2.2.2.2.1 (Cond.fieldLink RX5 90 "NotInTheCoin$Town" "figureOf" "[I") (by decide +kernel)
  have hh9 := C0.2.2.2.2.1 (Cond.fieldLink RX5 271 "NotInTheCoin$Town" "week" "I") (by decide +kernel)
  have hfX5_isTasteAsTold_b2 : ∀  (n : Nat) (k_1 : Nat) (hk_1 : nSh k_1) (a2 : Int32) (a3 : Int32) (h : fX5_isTasteAsTold_b2  n k_1 a2 a3 σ = some r), nJ p l e rmX5_isTasteAsTold s m args below meth c 0 0 (MQ below (nQi D B r σ s.heap.size) args s 0 0 (nA B s.heap.size)) D B 4 2 [(0, .ref (na B 0)), (1, .ref (na B k_1)), (2, .int a2), (3, .int a3)] [] σ := by
    intro  n
    induction n with
    | zero => intro k_1 hk_1 a2 a3 h; cases h
    | succ n ih =>
        intro k_1 hk_1 a2 a3 h
        rw [fX5_isTasteAsTold_b2] at h
        refine nx_iload_n C0 3 dX5_isTasteAsTold_2 rfl ?_
        refine nx_aload_n C0 1 dX5_isTasteAsTold_3 rfl ?_
        refine nx_gX1_size C0 hk_1 hh0 hh1 dX5_isTasteAsTold_4 ?_
        refine nx_icmp_ge (tgt := 75) C0 dX5_isTasteAsTold_7 (by decide) (fun q => ?_) (fun q => ?_)
        · have h := nift q h
          refine nx_iconst (v := 1) C0 dX5_isTasteAsTold_75 (by decide) ?_
          exact nr_z C0 hr (Or.inr rfl) dX5_isTasteAsTold_76 h
        · have h := niff q h
          refine nx_iload_n C0 3 dX5_isTasteAsTold_10 rfl ?_
          refine nx_aload_n C0 0 dX5_isTasteAsTold_11 rfl ?_
          refine nx_gX5_now C0 hh2 hh3 dX5_isTasteAsTold_12 ?_
          refine nx_gX4_goods C0 nT1 hh4 hh5 dX5_isTasteAsTold_15 ?_
          refine nx_icmp_ge (tgt := 75) C0 dX5_isTasteAsTold_18 (by decide) (fun q => ?_) (fun q => ?_)
          · have h := nift q h
            refine nx_iconst (v := 1) C0 dX5_isTasteAsTold_75 (by decide) ?_
            exact nr_z C0 hr (Or.inr rfl) dX5_isTasteAsTold_76 h
          · have h := niff q h
            refine nx_aload_n C0 1 dX5_isTasteAsTold_21 rfl ?_
            refine nx_iload_n C0 3 dX5_isTasteAsTold_22 rfl ?_
            obtain ⟨r2, c1, h⟩ := nbind h
            refine nx_cVi (ci := 1) (n := 1) (As := [.int a3]) (st := []) C0 (mX1_isSkipped l D B hB hk_1 a3 σ c1) gX5_isTasteAsTold_X1_isSkipped rfl rfl rfl ndX1_isSkipped ⟨Nat.le_of_ble_eq_true rfl, Nat.le_of_ble_eq_true rfl⟩ (by have := nSh_lt hk_1; omega) (nSh_e hk_1 _) rfl rfl rfl (Nat.le_of_ble_eq_true rfl) rfl dX5_isTasteAsTold_23 ?_
            refine nx_if_ne (tgt := 69) C0 dX5_isTasteAsTold_26 (by decide) (fun q => ?_) (fun q => ?_)
            · have h := niff q h
              obtain ⟨v3, ev3, h⟩ := nlet h
              refine nx_iinc (v := v3) (lv' := [(3, .int v3), (0, .ref (na B 0)), (1, .ref (na B k_1)), (2, .int a2)]) C0 3 dX5_isTasteAsTold_69 rfl ev3 (by decide) rfl ?_
              refine nx_goto (tgt := 2) C0 dX5_isTasteAsTold_72 (by decide) ?_
              refine nx_lv (lv' := [(0, .ref (na B 0)), (1, .ref (na B k_1)), (2, .int a2), (3, .int v3)]) [1, 2, 3, 0] rfl ?_
              exact ih k_1 hk_1 a2 v3 h
            · have h := nift q h
              refine nx_aload_n C0 1 dX5_isTasteAsTold_29 rfl ?_
              refine nx_gX1_cells C0 hk_1 hh0 hh6 dX5_isTasteAsTold_30 ?_
              refine nx_iload_n C0 3 dX5_isTasteAsTold_33 rfl ?_
              obtain ⟨g4, h⟩ := nguard h
              refine nx_iald C0 (nSh_c hk_1) g4 dX5_isTasteAsTold_34 ?_
              refine nx_aload_n C0 0 dX5_isTasteAsTold_35 rfl ?_
              refine nx_gX5_now C0 hh2 hh3 dX5_isTasteAsTold_36 ?_
              refine nx_gX4_kindOf C0 nT1 hh4 hh7 dX5_isTasteAsTold_39 ?_
              refine nx_iload_n C0 3 dX5_isTasteAsTold_42 rfl ?_
              obtain ⟨g5, h⟩ := nguard h
              refine nx_iald C0 (nT_a1 nT1) g5 dX5_isTasteAsTold_43 ?_
              refine nx_aload_n C0 0 dX5_isTasteAsTold_44 rfl ?_
              refine nx_gX5_now C0 hh2 hh3 dX5_isTasteAsTold_45 ?_
              refine nx_gX4_figureOf C0 nT1 hh4 hh8 dX5_isTasteAsTold_48 ?_
              refine nx_iload_n C0 3 dX5_isTasteAsTold_51 rfl ?_
              obtain ⟨g6, h⟩ := nguard h
              refine nx_iald C0 (nT_a2 nT1) g6 dX5_isTasteAsTold_52 ?_
              refine nx_iload_n C0 2 dX5_isTasteAsTold_53 rfl ?_
              refine nx_aload_n C0 0 dX5_isTasteAsTold_54 rfl ?_
              refine nx_gX5_now C0 hh2 hh3 dX5_isTasteAsTold_55 ?_
              refine nx_gX4_week C0 nT1 hh4 hh9 dX5_isTasteAsTold_58 ?_
              obtain ⟨r8, c7, h⟩ := nbind h
              refine nx_cSi (n := 4) (As := [.int (σ (1 + 1) (a3).toNatClampNeg), .int (σ (1 + 2) (a3).toNatClampNeg), .int a2, .int (σ 1 12)]) (st := [.int (σ (k_1 + 1) (a3).toNatClampNeg)]) C0 (mX5_worthOf l D B hB (σ (1 + 1) (a3).toNatClampNeg) (σ (1 + 2) (a3).toNatClampNeg) a2 (σ 1 12) σ c7) gX5_isTasteAsTold_X5_worthOf rfl rfl rfl ndX5_worthOf ⟨Nat.le_of_ble_eq_true rfl, Nat.le_of_ble_eq_true rfl⟩ rfl (Nat.le_of_ble_eq_true rfl) rfl dX5_isTasteAsTold_61 ?_
              refine nx_icmp_eq (tgt := 69) C0 dX5_isTasteAsTold_64 (by decide) (fun q => ?_) (fun q => ?_)
              · have h := nift q h
                obtain ⟨v9, ev9, h⟩ := nlet h
                refine nx_iinc (v := v9) (lv' := [(3, .int v9), (0, .ref (na B 0)), (1, .ref (na B k_1)), (2, .int a2)]) C0 3 dX5_isTasteAsTold_69 rfl ev9 (by decide) rfl ?_
                refine nx_goto (tgt := 2) C0 dX5_isTasteAsTold_72 (by decide) ?_
                refine nx_lv (lv' := [(0, .ref (na B 0)), (1, .ref (na B k_1)), (2, .int a2), (3, .int v9)]) [1, 2, 3, 0] rfl ?_
                exact ih k_1 hk_1 a2 v9 h
              · have h := niff q h
                refine nx_iconst (v := 0) C0 dX5_isTasteAsTold_67 (by decide) ?_
                exact nr_z C0 hr (Or.inl rfl) dX5_isTasteAsTold_68 h
  refine nx_lv (lv' := [(0, .ref (na B 0)), (1, .ref (na B k1)), (2, .int x2)]) [0, 1, 2] rfl ?_
  rw [fX5_isTasteAsTold] at h
  refine nx_iconst (v := 0) C0 dX5_isTasteAsTold_0 (by decide) ?_
  refine nx_istore_n (i := 3) (y := (0 : Int32)) (lv' := [(3, .int (0 : Int32)), (0, .ref (na B 0)), (1, .ref (na B k1)), (2, .int x2)]) C0 dX5_isTasteAsTold_1 rfl (by decide) rfl rfl ?_
  refine nx_lv (lv' := [(0, .ref (na B 0)), (1, .ref (na B k1)), (2, .int x2), (3, .int (0 : Int32))]) [1, 2, 3, 0] rfl ?_
  exact hfX5_isTasteAsTold_b2 4096 k1 hk1 x2 (0 : Int32) h
def rmX5_tastes : Room := { frames := 2, cells := 0, slots := 0, locals := 51 }
theorem ndX5_tastes : yX5_tastes.cls = RX5 ∧ yX5_tastes.cls ≠ "java/lang/invoke/MethodHandle" ∧ yX5_tastes.cls ≠ "java/lang/invoke/VarHandle" ∧ (parseMethodDescriptor yX5_tastes.desc).map (fun d => d.parameters.length) = some 2 := by decide +kernel
set_option maxRecDepth 100000 in
set_option maxHeartbeats 4000000 in
theorem mX5_tastes (l : Launch) (D : va_G) (B : nBT) (hB : nInj B) (x1 : Int32) (x2 : Int32) (σ : nS) {r : Int32}  (h : fX5_tastes x1 x2 σ = some r) : nMi l D B yX5_tastes wsX5_tastes rmX5_tastes [.ref (na B 0), .int x1, .int x2] σ r σ := by
  refine nmet (cc := cX5_tastes) (maxL := 6) (ret := (some .int)) (own := RX5) (av := [.ref (na B 0), .int x1, .int x2]) (nQi D B r σ) hB (by decide) rfl rfl (Nat.le_of_ble_eq_true rfl) (fun p e s m args below meth c C0 hr => ?_)
  have hh0 : ∀ w ∈ wsX50, w ∈ wsX5_tastes := by decide +kernel
  have hh1 := C0.2.2.2.2.1 (Cond.fieldLink RX5 24 "NotInTheCoin" "shelves" "[LNotInTheCoin$Shelf;") (by decide +kernel)
  have hh2 := C0.2.2.2.2.1 (Cond.fieldLink RX5 10 "NotInTheCoin" "now" "LNotInTheCoin$Town;") (by decide +kernel)
  have hh3 : ∀ w ∈ wsX10, w ∈ wsX5_tastes := by decide +kernel
  have hh4 := C0.2.2.2.2.1 (Cond.fieldLink RX5 70 "NotInTheCoin$Shelf" "size" "I") (by decide +kernel)
  have hh5 : ∀ w ∈ wsX40, w ∈ wsX5_tastes := by decide +kernel
  have hh6 := C0.2.2.2.2.1 (Cond.fieldLink RX5 230 "NotInTheCoin$Town" "goods" "I") (by decide +kernel)
  have hfX5_tastes_b65 : ∀  (n : Nat) (a1 : Int32) (a4 : Int32) (a5 : Int32) (h : fX5_tastes_b65  n a1 a4 a5 σ = some r), nJ p l e rmX5_tastes s m args below meth c 0 0 (MQ below (nQi D B r σ s.heap.size) args s 0 0 (nA B s.heap.size)) D B 6 65 [(0, .ref (na B 0)), (1, .int a1), (4, .int a4), (5, .int a5)] [] σ := by
    intro  n
    induction n with
    | zero => intro a1 a4 a5 h; cases h
    | succ n ih =>
        intro a1 a4 a5 h
        rw [fX5_tastes_b65] at h
        refine nx_iload C0 3 dX5_tastes_65 rfl ?_
        refine nx_bipush (v := 10) C0 dX5_tastes_67 (by decide) ?_
        refine nx_icmp_ge (tgt := 102) C0 dX5_tastes_69 (by decide) (fun q => ?_) (fun q => ?_)
        · have h := nift q h
          refine nx_iload C0 2 dX5_tastes_102 rfl ?_
          exact nr_i C0 hr dX5_tastes_104 h
        · have h := niff q h
          refine nx_aload_n C0 0 dX5_tastes_72 rfl ?_
          refine nx_aload_n C0 0 dX5_tastes_73 rfl ?_
          refine nx_gX5_shelves C0 hh0 hh1 dX5_tastes_74 ?_
          refine nx_iload_n C0 1 dX5_tastes_77 rfl ?_
          obtain ⟨g1, h⟩ := nguard h
          refine nx_aldS C0 g1 dX5_tastes_78 ?_
          refine nx_iload C0 3 dX5_tastes_79 rfl ?_
          obtain ⟨r3, c2, h⟩ := nbind h
          refine nx_cVi (ci := 5) (n := 2) (As := [.ref (na B (29 + 2 * (a1).toNatClampNeg)), .int a5]) (st := []) C0 (mX5_isTasteAsTold l D B hB (nSh_of g1) a5 σ c2) gX5_tastes_X5_isTasteAsTold rfl rfl rfl ndX5_isTasteAsTold ⟨Nat.le_of_ble_eq_true rfl, Nat.le_of_ble_eq_true rfl⟩ (by decide) rfl rfl rfl rfl (Nat.le_of_ble_eq_true rfl) rfl dX5_tastes_81 ?_
          refine nx_if_eq (tgt := 96) C0 dX5_tastes_84 (by decide) (fun q => ?_) (fun q => ?_)
          · have h := nift q h
            obtain ⟨v4, ev4, h⟩ := nlet h
            refine nx_iinc (v := v4) (lv' := [(5, .int v4), (0, .ref (na B 0)), (1, .int a1), (4, .int a4)]) C0 3 dX5_tastes_96 rfl ev4 (by decide) rfl ?_
            refine nx_goto (tgt := 65) C0 dX5_tastes_99 (by decide) ?_
            refine nx_lv (lv' := [(0, .ref (na B 0)), (1, .int a1), (4, .int a4), (5, .int v4)]) [1, 2, 3, 0] rfl ?_
            exact ih a1 a4 v4 h
          · have h := niff q h
            refine nx_iload C0 2 dX5_tastes_87 rfl ?_
            refine nx_iconst (v := 1) C0 dX5_tastes_89 (by decide) ?_
            refine nx_iload C0 3 dX5_tastes_90 rfl ?_
            refine nx_ishl C0 dX5_tastes_92 ?_
            refine nx_ior C0 dX5_tastes_93 ?_
            obtain ⟨v5, ev5, h⟩ := nlet h
            refine nx_istore (i := 4) (y := v5) (lv' := [(4, .int v5), (0, .ref (na B 0)), (1, .int a1), (5, .int a5)]) C0 dX5_tastes_94 (by decide) ev5 rfl ?_
            obtain ⟨v6, ev6, h⟩ := nlet h
            refine nx_iinc (v := v6) (lv' := [(5, .int v6), (4, .int v5), (0, .ref (na B 0)), (1, .int a1)]) C0 3 dX5_tastes_96 rfl ev6 (by decide) rfl ?_
            refine nx_goto (tgt := 65) C0 dX5_tastes_99 (by decide) ?_
            refine nx_lv (lv' := [(0, .ref (na B 0)), (1, .int a1), (4, .int v5), (5, .int v6)]) [2, 3, 1, 0] rfl ?_
            exact ih a1 v5 v6 h
  refine nx_lv (lv' := [(0, .ref (na B 0)), (1, .int x1), (2, .int x2)]) [0, 1, 2] rfl ?_
  rw [fX5_tastes] at h
  refine nx_iload_n C0 1 dX5_tastes_0 rfl ?_
  obtain ⟨r8, c7, h⟩ := nbind h
  refine nx_cSi (n := 1) (As := [.int x1]) (st := []) C0 (mX5_isShelf l D B hB x1 σ c7) gX5_tastes_X5_isShelf rfl rfl rfl ndX5_isShelf ⟨Nat.le_of_ble_eq_true rfl, Nat.le_of_ble_eq_true rfl⟩ rfl (Nat.le_of_ble_eq_true rfl) rfl dX5_tastes_1 ?_
  refine nx_if_eq (tgt := 18) C0 dX5_tastes_4 (by decide) (fun q => ?_) (fun q => ?_)
  · have h := nift q h
    refine nx_iconst (v := -1) C0 dX5_tastes_18 (by decide) ?_
    exact nr_i C0 hr dX5_tastes_19 h
  · have h := niff q h
    refine nx_aload_n C0 0 dX5_tastes_7 rfl ?_
    refine nx_gX5_now C0 hh0 hh2 dX5_tastes_8 ?_
    refine nx_iload_n C0 2 dX5_tastes_11 rfl ?_
    obtain ⟨r10, c9, h⟩ := nbind h
    refine nx_cVi (ci := 4) (n := 1) (As := [.int x2]) (st := []) C0 (mX4_isPerson l D B hB nT1 x2 σ c9) gX5_tastes_X4_isPerson rfl rfl rfl ndX4_isPerson ⟨Nat.le_of_ble_eq_true rfl, Nat.le_of_ble_eq_true rfl⟩ (by have := nT_lt nT1; omega) (nT_e nT1 _) rfl rfl rfl (Nat.le_of_ble_eq_true rfl) rfl dX5_tastes_12 ?_
    refine nx_if_ne (tgt := 20) C0 dX5_tastes_15 (by decide) (fun q => ?_) (fun q => ?_)
    · have h := niff q h
      refine nx_aload_n C0 0 dX5_tastes_20 rfl ?_
      refine nx_gX5_shelves C0 hh0 hh1 dX5_tastes_21 ?_
      refine nx_iload_n C0 1 dX5_tastes_24 rfl ?_
      obtain ⟨g11, h⟩ := nguard h
      refine nx_aldS C0 g11 dX5_tastes_25 ?_
      refine nx_iconst (v := 2) C0 dX5_tastes_26 (by decide) ?_
      obtain ⟨r13, c12, h⟩ := nbind h
      refine nx_cVi (ci := 1) (n := 1) (As := [.int (2 : Int32)]) (st := []) C0 (mX1_refusal l D B hB (nSh_of g11) (2 : Int32) σ c12) gX5_tastes_X1_refusal rfl rfl rfl ndX1_refusal ⟨Nat.le_of_ble_eq_true rfl, Nat.le_of_ble_eq_true rfl⟩ (by have := nSh_lt (nSh_of g11); omega) (nSh_e (nSh_of g11) _) rfl rfl rfl (Nat.le_of_ble_eq_true rfl) rfl dX5_tastes_27 ?_
      refine nx_istore_n (i := 3) (y := r13) (lv' := [(3, .int r13), (0, .ref (na B 0)), (1, .int x1), (2, .int x2)]) C0 dX5_tastes_30 rfl (by decide) rfl rfl ?_
      refine nx_iload_n C0 0 dX5_tastes_31 rfl ?_
      refine nx_if_eq (tgt := 37) C0 dX5_tastes_32 (by decide) (fun q => ?_) (fun q => ?_)
      · have h := nift q h
        refine nx_aload_n C0 1 dX5_tastes_37 rfl ?_
        refine nx_gX5_shelves C0 hh0 hh1 dX5_tastes_38 ?_
        refine nx_iload_n C0 2 dX5_tastes_41 rfl ?_
        obtain ⟨g14, h⟩ := nguard h
        refine nx_aldS C0 g14 dX5_tastes_42 ?_
        refine nx_gX1_size C0 (nSh_of g14) hh3 hh4 dX5_tastes_43 ?_
        refine nx_aload_n C0 1 dX5_tastes_46 rfl ?_
        refine nx_gX5_now C0 hh0 hh2 dX5_tastes_47 ?_
        refine nx_gX4_goods C0 nT1 hh5 hh6 dX5_tastes_50 ?_
        refine nx_icmp_le (tgt := 59) C0 dX5_tastes_53 (by decide) (fun q => ?_) (fun q => ?_)
        · have h := nift q h
          refine nx_iconst (v := 0) C0 dX5_tastes_59 (by decide) ?_
          refine nx_istore (i := 4) (y := (0 : Int32)) (lv' := [(4, .int (0 : Int32)), (3, .int r13), (0, .ref (na B 0)), (1, .int x1), (2, .int x2)]) C0 dX5_tastes_60 (by decide) rfl rfl ?_
          refine nx_iconst (v := 0) C0 dX5_tastes_62 (by decide) ?_
          refine nx_istore (i := 5) (y := (0 : Int32)) (lv' := [(5, .int (0 : Int32)), (4, .int (0 : Int32)), (3, .int r13), (0, .ref (na B 0)), (1, .int x1), (2, .int x2)]) C0 dX5_tastes_63 (by decide) rfl rfl ?_
          refine nx_lv (lv' := [(0, .ref (na B 0)), (1, .int x1), (4, .int (0 : Int32)), (5, .int (0 : Int32))]) [3, 4, 1, 0] rfl ?_
          exact hfX5_tastes_b65 4096 x1 (0 : Int32) (0 : Int32) h
        · have h := niff q h
          refine nx_bipush (v := -13) C0 dX5_tastes_56 (by decide) ?_
          exact nr_i C0 hr dX5_tastes_58 h
      · have h := niff q h
        refine nx_iload_n C0 0 dX5_tastes_35 rfl ?_
        exact nr_i C0 hr dX5_tastes_36 h
    · have h := nift q h
      refine nx_iconst (v := -1) C0 dX5_tastes_18 (by decide) ?_
      exact nr_i C0 hr dX5_tastes_19 h
