def rmX6_canPay : Room := { frames := 5, cells := 0, slots := 0, locals := 112 }
theorem ndX6_canPay : yX6_canPay.cls = RX6 ∧ yX6_canPay.cls ≠ "java/lang/invoke/MethodHandle" ∧ yX6_canPay.cls ≠ "java/lang/invoke/VarHandle" ∧ (parseMethodDescriptor yX6_canPay.desc).map (fun d => d.parameters.length) = some 1 := by decide +kernel
set_option maxRecDepth 100000 in
set_option maxHeartbeats 4000000 in
theorem mX6_canPay (l : Launch) (D : va_G) (B : nBT) (hB : nInj B) (x1 : Int32) (σ : nS) {r : Int32}  (h : fX6_canPay x1 σ = some r) : nMi l D B yX6_canPay wsX6_canPay rmX6_canPay [.ref (na B 63), .int x1] σ r σ := by
  refine nmet (cc := cX6_canPay) (maxL := 4) (ret := (some .int)) (own := RX6) (av := [.ref (na B 63), .int x1]) (nQi D B r σ) hB (by decide) rfl rfl (Nat.le_of_ble_eq_true rfl) (fun p e s m args below meth c C0 hr => ?_)
  have hh0 : ∀ w ∈ wsX60, w ∈ wsX6_canPay := by decide +kernel
  have hh1 := C0.2.2.2.2.1 (Cond.fieldLink RX6 9 "NotInTheCoinModel" "s" "[I") (by decide +kernel)
  have hfX6_canPay_b14 : ∀  (n : Nat) (a1 : Int32) (a2 : Int32) (a3 : Int32) (h : fX6_canPay_b14  n a1 a2 a3 σ = some r), nJ p l e rmX6_canPay s m args below meth c 0 0 (MQ below (nQi D B r σ s.heap.size) args s 0 0 (nA B s.heap.size)) D B 4 14 [(0, .ref (na B 63)), (1, .int a1), (2, .int a2), (3, .int a3)] [] σ := by
    intro  n
    induction n with
    | zero => intro a1 a2 a3 h; cases h
    | succ n ih =>
        intro a1 a2 a3 h
        rw [fX6_canPay_b14] at h
        refine nx_iload_n C0 3 dX6_canPay_14 rfl ?_
        refine nx_aload_n C0 0 dX6_canPay_15 rfl ?_
        refine nx_gX6_s C0 hh0 hh1 dX6_canPay_16 ?_
        refine nx_iconst (v := 0) C0 dX6_canPay_19 (by decide) ?_
        obtain ⟨g1, h⟩ := nguard h
        refine nx_iald C0 nI_64 g1 dX6_canPay_20 ?_
        refine nx_icmp_ge (tgt := 52) C0 dX6_canPay_21 (by decide) (fun q => ?_) (fun q => ?_)
        · have h := nift q h
          refine nx_iload_n C0 2 dX6_canPay_52 rfl ?_
          exact nr_i C0 hr dX6_canPay_53 h
        · have h := niff q h
          refine nx_iload_n C0 2 dX6_canPay_24 rfl ?_
          refine nx_aload_n C0 0 dX6_canPay_25 rfl ?_
          refine nx_gX6_s C0 hh0 hh1 dX6_canPay_26 ?_
          refine nx_iload_n C0 1 dX6_canPay_29 rfl ?_
          refine nx_iload_n C0 3 dX6_canPay_30 rfl ?_
          obtain ⟨r3, c2, h⟩ := nbind h
          refine nx_cSi (n := 3) (As := [.ref (na B 64), .int a1, .int a3]) (st := [.int a2]) C0 (mX6_canPayIn l D B hB nR64 a1 a3 σ c2) gX6_canPay_X6_canPayIn rfl rfl rfl ndX6_canPayIn ⟨Nat.le_of_ble_eq_true rfl, Nat.le_of_ble_eq_true rfl⟩ rfl (Nat.le_of_ble_eq_true rfl) rfl dX6_canPay_31 ?_
          refine nx_if_eq (tgt := 43) C0 dX6_canPay_34 (by decide) (fun q => ?_) (fun q => ?_)
          · have h := nift q h
            refine nx_iconst (v := 0) C0 dX6_canPay_43 (by decide) ?_
            refine nx_ior C0 dX6_canPay_44 ?_
            obtain ⟨v4, ev4, h⟩ := nlet h
            refine nx_istore_n (i := 2) (y := v4) (lv' := [(2, .int v4), (0, .ref (na B 63)), (1, .int a1), (3, .int a3)]) C0 dX6_canPay_45 rfl (by decide) ev4 rfl ?_
            obtain ⟨v5, ev5, h⟩ := nlet h
            refine nx_iinc (v := v5) (lv' := [(3, .int v5), (2, .int v4), (0, .ref (na B 63)), (1, .int a1)]) C0 3 dX6_canPay_46 rfl ev5 (by decide) rfl ?_
            refine nx_goto (tgt := 14) C0 dX6_canPay_49 (by decide) ?_
            refine nx_lv (lv' := [(0, .ref (na B 63)), (1, .int a1), (2, .int v4), (3, .int v5)]) [2, 3, 1, 0] rfl ?_
            exact ih a1 v4 v5 h
          · have h := niff q h
            refine nx_iconst (v := 1) C0 dX6_canPay_37 (by decide) ?_
            refine nx_iload_n C0 3 dX6_canPay_38 rfl ?_
            refine nx_ishl C0 dX6_canPay_39 ?_
            refine nx_goto (tgt := 44) C0 dX6_canPay_40 (by decide) ?_
            refine nx_ior C0 dX6_canPay_44 ?_
            obtain ⟨v6, ev6, h⟩ := nlet h
            refine nx_istore_n (i := 2) (y := v6) (lv' := [(2, .int v6), (0, .ref (na B 63)), (1, .int a1), (3, .int a3)]) C0 dX6_canPay_45 rfl (by decide) ev6 rfl ?_
            obtain ⟨v7, ev7, h⟩ := nlet h
            refine nx_iinc (v := v7) (lv' := [(3, .int v7), (2, .int v6), (0, .ref (na B 63)), (1, .int a1)]) C0 3 dX6_canPay_46 rfl ev7 (by decide) rfl ?_
            refine nx_goto (tgt := 14) C0 dX6_canPay_49 (by decide) ?_
            refine nx_lv (lv' := [(0, .ref (na B 63)), (1, .int a1), (2, .int v6), (3, .int v7)]) [2, 3, 1, 0] rfl ?_
            exact ih a1 v6 v7 h
  refine nx_lv (lv' := [(0, .ref (na B 63)), (1, .int x1)]) [0, 1] rfl ?_
  rw [fX6_canPay] at h
  refine nx_aload_n C0 0 dX6_canPay_0 rfl ?_
  refine nx_iload_n C0 1 dX6_canPay_1 rfl ?_
  obtain ⟨r9, c8, h⟩ := nbind h
  refine nx_cVi (ci := 6) (n := 1) (As := [.int x1]) (st := []) C0 (mX6_isLoan l D B hB x1 σ c8) gX6_canPay_X6_isLoan rfl rfl rfl ndX6_isLoan ⟨Nat.le_of_ble_eq_true rfl, Nat.le_of_ble_eq_true rfl⟩ (by decide) rfl rfl rfl rfl (Nat.le_of_ble_eq_true rfl) rfl dX6_canPay_2 ?_
  refine nx_if_ne (tgt := 10) C0 dX6_canPay_5 (by decide) (fun q => ?_) (fun q => ?_)
  · have h := niff q h
    refine nx_iconst (v := 0) C0 dX6_canPay_10 (by decide) ?_
    refine nx_istore_n (i := 2) (y := (0 : Int32)) (lv' := [(2, .int (0 : Int32)), (0, .ref (na B 63)), (1, .int x1)]) C0 dX6_canPay_11 rfl (by decide) rfl rfl ?_
    refine nx_iconst (v := 0) C0 dX6_canPay_12 (by decide) ?_
    refine nx_istore_n (i := 3) (y := (0 : Int32)) (lv' := [(3, .int (0 : Int32)), (2, .int (0 : Int32)), (0, .ref (na B 63)), (1, .int x1)]) C0 dX6_canPay_13 rfl (by decide) rfl rfl ?_
    refine nx_lv (lv' := [(0, .ref (na B 63)), (1, .int x1), (2, .int (0 : Int32)), (3, .int (0 : Int32))]) [2, 3, 1, 0] rfl ?_
    exact hfX6_canPay_b14 4096 x1 (0 : Int32) (0 : Int32) h
  · have h := nift q h
    refine nx_iconst (v := -1) C0 dX6_canPay_8 (by decide) ?_
    exact nr_i C0 hr dX6_canPay_9 h
def rmX6_bestPayment : Room := { frames := 5, cells := 0, slots := 0, locals := 112 }
theorem ndX6_bestPayment : yX6_bestPayment.cls = RX6 ∧ yX6_bestPayment.cls ≠ "java/lang/invoke/MethodHandle" ∧ yX6_bestPayment.cls ≠ "java/lang/invoke/VarHandle" ∧ (parseMethodDescriptor yX6_bestPayment.desc).map (fun d => d.parameters.length) = some 1 := by decide +kernel
set_option maxRecDepth 100000 in
set_option maxHeartbeats 4000000 in
theorem mX6_bestPayment (l : Launch) (D : va_G) (B : nBT) (hB : nInj B) (x1 : Int32) (σ : nS) {r : Int32}  (h : fX6_bestPayment x1 σ = some r) : nMi l D B yX6_bestPayment wsX6_bestPayment rmX6_bestPayment [.ref (na B 63), .int x1] σ r σ := by
  refine nmet (cc := cX6_bestPayment) (maxL := 5) (ret := (some .int)) (own := RX6) (av := [.ref (na B 63), .int x1]) (nQi D B r σ) hB (by decide) rfl rfl (Nat.le_of_ble_eq_true rfl) (fun p e s m args below meth c C0 hr => ?_)
  have hh0 : ∀ w ∈ wsX60, w ∈ wsX6_bestPayment := by decide +kernel
  have hh1 := C0.2.2.2.2.1 (Cond.fieldLink RX6 9 "NotInTheCoinModel" "s" "[I") (by decide +kernel)
  have hfX6_bestPayment_b28 : ∀  (n : Nat) (a1 : Int32) (a2 : Int32) (a3 : Int32) (a4 : Int32) (h : fX6_bestPayment_b28  n a1 a2 a3 a4 σ = some r), nJ p l e rmX6_bestPayment s m args below meth c 0 0 (MQ below (nQi D B r σ s.heap.size) args s 0 0 (nA B s.heap.size)) D B 5 28 [(0, .ref (na B 63)), (1, .int a1), (2, .int a2), (3, .int a3), (4, .int a4)] [] σ := by
    intro  n
    induction n with
    | zero => intro a1 a2 a3 a4 h; cases h
    | succ n ih =>
        intro a1 a2 a3 a4 h
        rw [fX6_bestPayment_b28] at h
        refine nx_iload C0 4 dX6_bestPayment_28 rfl ?_
        refine nx_aload_n C0 0 dX6_bestPayment_30 rfl ?_
        refine nx_gX6_s C0 hh0 hh1 dX6_bestPayment_31 ?_
        refine nx_iconst (v := 0) C0 dX6_bestPayment_34 (by decide) ?_
        obtain ⟨g1, h⟩ := nguard h
        refine nx_iald C0 nI_64 g1 dX6_bestPayment_35 ?_
        refine nx_icmp_ge (tgt := 87) C0 dX6_bestPayment_36 (by decide) (fun q => ?_) (fun q => ?_)
        · have h := nift q h
          refine nx_iload_n C0 2 dX6_bestPayment_87 rfl ?_
          exact nr_i C0 hr dX6_bestPayment_88 h
        · have h := niff q h
          refine nx_aload_n C0 0 dX6_bestPayment_39 rfl ?_
          refine nx_gX6_s C0 hh0 hh1 dX6_bestPayment_40 ?_
          refine nx_iload_n C0 1 dX6_bestPayment_43 rfl ?_
          refine nx_iload C0 4 dX6_bestPayment_44 rfl ?_
          obtain ⟨r3, c2, h⟩ := nbind h
          refine nx_cSi (n := 3) (As := [.ref (na B 64), .int a1, .int a4]) (st := []) C0 (mX6_canPayIn l D B hB nR64 a1 a4 σ c2) gX6_bestPayment_X6_canPayIn rfl rfl rfl ndX6_canPayIn ⟨Nat.le_of_ble_eq_true rfl, Nat.le_of_ble_eq_true rfl⟩ rfl (Nat.le_of_ble_eq_true rfl) rfl dX6_bestPayment_46 ?_
          refine nx_if_eq (tgt := 81) C0 dX6_bestPayment_49 (by decide) (fun q => ?_) (fun q => ?_)
          · have h := nift q h
            obtain ⟨v4, ev4, h⟩ := nlet h
            refine nx_iinc (v := v4) (lv' := [(4, .int v4), (0, .ref (na B 63)), (1, .int a1), (2, .int a2), (3, .int a3)]) C0 4 dX6_bestPayment_81 rfl ev4 (by decide) rfl ?_
            refine nx_goto (tgt := 28) C0 dX6_bestPayment_84 (by decide) ?_
            refine nx_lv (lv' := [(0, .ref (na B 63)), (1, .int a1), (2, .int a2), (3, .int a3), (4, .int v4)]) [1, 2, 3, 4, 0] rfl ?_
            exact ih a1 a2 a3 v4 h
          · have h := niff q h
            refine nx_iload_n C0 2 dX6_bestPayment_52 rfl ?_
            refine nx_if_lt (tgt := 78) C0 dX6_bestPayment_53 (by decide) (fun q => ?_) (fun q => ?_)
            · have h := nift q h
              refine nx_iload C0 4 dX6_bestPayment_78 rfl ?_
              refine nx_istore_n (i := 2) (y := a4) (lv' := [(2, .int a4), (0, .ref (na B 63)), (1, .int a1), (3, .int a3), (4, .int a4)]) C0 dX6_bestPayment_80 rfl (by decide) rfl rfl ?_
              obtain ⟨v5, ev5, h⟩ := nlet h
              refine nx_iinc (v := v5) (lv' := [(4, .int v5), (2, .int a4), (0, .ref (na B 63)), (1, .int a1), (3, .int a3)]) C0 4 dX6_bestPayment_81 rfl ev5 (by decide) rfl ?_
              refine nx_goto (tgt := 28) C0 dX6_bestPayment_84 (by decide) ?_
              refine nx_lv (lv' := [(0, .ref (na B 63)), (1, .int a1), (2, .int a4), (3, .int a3), (4, .int v5)]) [2, 3, 1, 4, 0] rfl ?_
              exact ih a1 a4 a3 v5 h
            · have h := niff q h
              refine nx_aload_n C0 0 dX6_bestPayment_56 rfl ?_
              refine nx_gX6_s C0 hh0 hh1 dX6_bestPayment_57 ?_
              refine nx_iload_n C0 3 dX6_bestPayment_60 rfl ?_
              refine nx_iload C0 4 dX6_bestPayment_61 rfl ?_
              obtain ⟨r7, c6, h⟩ := nbind h
              refine nx_cSi (n := 3) (As := [.ref (na B 64), .int a3, .int a4]) (st := []) C0 (mX6_worthIn l D B hB nR64 a3 a4 σ c6) gX6_bestPayment_X6_worthIn rfl rfl rfl ndX6_worthIn ⟨Nat.le_of_ble_eq_true rfl, Nat.le_of_ble_eq_true rfl⟩ rfl (Nat.le_of_ble_eq_true rfl) rfl dX6_bestPayment_63 ?_
              refine nx_aload_n C0 0 dX6_bestPayment_66 rfl ?_
              refine nx_gX6_s C0 hh0 hh1 dX6_bestPayment_67 ?_
              refine nx_iload_n C0 3 dX6_bestPayment_70 rfl ?_
              refine nx_iload_n C0 2 dX6_bestPayment_71 rfl ?_
              obtain ⟨r9, c8, h⟩ := nbind h
              refine nx_cSi (n := 3) (As := [.ref (na B 64), .int a3, .int a2]) (st := [.int r7]) C0 (mX6_worthIn l D B hB nR64 a3 a2 σ c8) gX6_bestPayment_X6_worthIn rfl rfl rfl ndX6_worthIn ⟨Nat.le_of_ble_eq_true rfl, Nat.le_of_ble_eq_true rfl⟩ rfl (Nat.le_of_ble_eq_true rfl) rfl dX6_bestPayment_72 ?_
              refine nx_icmp_le (tgt := 81) C0 dX6_bestPayment_75 (by decide) (fun q => ?_) (fun q => ?_)
              · have h := nift q h
                obtain ⟨v10, ev10, h⟩ := nlet h
                refine nx_iinc (v := v10) (lv' := [(4, .int v10), (0, .ref (na B 63)), (1, .int a1), (2, .int a2), (3, .int a3)]) C0 4 dX6_bestPayment_81 rfl ev10 (by decide) rfl ?_
                refine nx_goto (tgt := 28) C0 dX6_bestPayment_84 (by decide) ?_
                refine nx_lv (lv' := [(0, .ref (na B 63)), (1, .int a1), (2, .int a2), (3, .int a3), (4, .int v10)]) [1, 2, 3, 4, 0] rfl ?_
                exact ih a1 a2 a3 v10 h
              · have h := niff q h
                refine nx_iload C0 4 dX6_bestPayment_78 rfl ?_
                refine nx_istore_n (i := 2) (y := a4) (lv' := [(2, .int a4), (0, .ref (na B 63)), (1, .int a1), (3, .int a3), (4, .int a4)]) C0 dX6_bestPayment_80 rfl (by decide) rfl rfl ?_
                obtain ⟨v11, ev11, h⟩ := nlet h
                refine nx_iinc (v := v11) (lv' := [(4, .int v11), (2, .int a4), (0, .ref (na B 63)), (1, .int a1), (3, .int a3)]) C0 4 dX6_bestPayment_81 rfl ev11 (by decide) rfl ?_
                refine nx_goto (tgt := 28) C0 dX6_bestPayment_84 (by decide) ?_
                refine nx_lv (lv' := [(0, .ref (na B 63)), (1, .int a1), (2, .int a4), (3, .int a3), (4, .int v11)]) [2, 3, 1, 4, 0] rfl ?_
                exact ih a1 a4 a3 v11 h
  refine nx_lv (lv' := [(0, .ref (na B 63)), (1, .int x1)]) [0, 1] rfl ?_
  rw [fX6_bestPayment] at h
  refine nx_aload_n C0 0 dX6_bestPayment_0 rfl ?_
  refine nx_iload_n C0 1 dX6_bestPayment_1 rfl ?_
  obtain ⟨r13, c12, h⟩ := nbind h
  refine nx_cVi (ci := 6) (n := 1) (As := [.int x1]) (st := []) C0 (mX6_isLoan l D B hB x1 σ c12) gX6_bestPayment_X6_isLoan rfl rfl rfl ndX6_isLoan ⟨Nat.le_of_ble_eq_true rfl, Nat.le_of_ble_eq_true rfl⟩ (by decide) rfl rfl rfl rfl (Nat.le_of_ble_eq_true rfl) rfl dX6_bestPayment_2 ?_
  refine nx_if_ne (tgt := 10) C0 dX6_bestPayment_5 (by decide) (fun q => ?_) (fun q => ?_)
  · have h := niff q h
    refine nx_bipush (v := -4) C0 dX6_bestPayment_10 (by decide) ?_
    refine nx_istore_n (i := 2) (y := (-4 : Int32)) (lv' := [(2, .int (-4 : Int32)), (0, .ref (na B 63)), (1, .int x1)]) C0 dX6_bestPayment_12 rfl (by decide) rfl rfl ?_
    refine nx_aload_n C0 1 dX6_bestPayment_13 rfl ?_
    refine nx_gX6_s C0 hh0 hh1 dX6_bestPayment_14 ?_
    refine nx_iload_n C0 2 dX6_bestPayment_17 rfl ?_
    obtain ⟨r15, c14, h⟩ := nbind h
    refine nx_cSi (n := 1) (As := [.int x1]) (st := [.ref (na B 64)]) C0 (mX6_ofL l D B hB x1 σ c14) gX6_bestPayment_X6_ofL rfl rfl rfl ndX6_ofL ⟨Nat.le_of_ble_eq_true rfl, Nat.le_of_ble_eq_true rfl⟩ rfl (Nat.le_of_ble_eq_true rfl) rfl dX6_bestPayment_18 ?_
    refine nx_iconst (v := 0) C0 dX6_bestPayment_21 (by decide) ?_
    refine nx_iadd C0 dX6_bestPayment_22 ?_
    obtain ⟨g16, h⟩ := nguard h
    refine nx_iald C0 nI_64 g16 dX6_bestPayment_23 ?_
    obtain ⟨v17, ev17, h⟩ := nlet h
    refine nx_istore_n (i := 3) (y := v17) (lv' := [(3, .int v17), (2, .int (-4 : Int32)), (0, .ref (na B 63)), (1, .int x1)]) C0 dX6_bestPayment_24 rfl (by decide) ev17 rfl ?_
    refine nx_iconst (v := 0) C0 dX6_bestPayment_25 (by decide) ?_
    refine nx_istore (i := 4) (y := (0 : Int32)) (lv' := [(4, .int (0 : Int32)), (3, .int v17), (2, .int (-4 : Int32)), (0, .ref (na B 63)), (1, .int x1)]) C0 dX6_bestPayment_26 (by decide) rfl rfl ?_
    refine nx_lv (lv' := [(0, .ref (na B 63)), (1, .int x1), (2, .int (-4 : Int32)), (3, .int v17), (4, .int (0 : Int32))]) [3, 4, 2, 1, 0] rfl ?_
    exact hfX6_bestPayment_b28 4096 x1 (-4 : Int32) v17 (0 : Int32) h
  · have h := nift q h
    refine nx_iconst (v := -1) C0 dX6_bestPayment_8 (by decide) ?_
    exact nr_i C0 hr dX6_bestPayment_9 h
def rmX6_hasThen : Room := { frames := 8, cells := 0, slots := 0, locals := 180 }
theorem ndX6_hasThen : yX6_hasThen.cls = RX6 ∧ yX6_hasThen.cls ≠ "java/lang/invoke/MethodHandle" ∧ yX6_hasThen.cls ≠ "java/lang/invoke/VarHandle" ∧ (parseMethodDescriptor yX6_hasThen.desc).map (fun d => d.parameters.length) = some 2 := by decide +kernel
set_option maxRecDepth 100000 in
set_option maxHeartbeats 4000000 in
theorem mX6_hasThen (l : Launch) (D : va_G) (B : nBT) (hB : nInj B) (x1 : Int32) (x2 : Int32) (σ : nS) {r : Int32} {σ1 : nS} (h : fX6_hasThen x1 x2 σ = some (r, σ1)) : nMi l D B yX6_hasThen wsX6_hasThen rmX6_hasThen [.ref (na B 63), .int x1, .int x2] σ r σ1 := by
  refine nmet (cc := cX6_hasThen) (maxL := 3) (ret := (some .int)) (own := RX6) (av := [.ref (na B 63), .int x1, .int x2]) (nQi D B r σ1) hB (by decide) rfl rfl (Nat.le_of_ble_eq_true rfl) (fun p e s m args below meth c C0 hr => ?_)
  have hh0 : ∀ w ∈ wsX60, w ∈ wsX6_hasThen := by decide +kernel
  have hh1 := C0.2.2.2.2.1 (Cond.fieldLink RX6 9 "NotInTheCoinModel" "s" "[I") (by decide +kernel)
  have hh2 := C0.2.2.2.2.1 (Cond.fieldLink RX6 13 "NotInTheCoinModel" "m" "[I") (by decide +kernel)
  refine nx_lv (lv' := [(0, .ref (na B 63)), (1, .int x1), (2, .int x2)]) [0, 1, 2] rfl ?_
  rw [fX6_hasThen] at h
  refine nx_aload_n C0 0 dX6_hasThen_0 rfl ?_
  refine nx_iload_n C0 1 dX6_hasThen_1 rfl ?_
  obtain ⟨r2, c1, h⟩ := nbind h
  refine nx_cVi (ci := 6) (n := 1) (As := [.int x1]) (st := []) C0 (mX6_isGood l D B hB x1 σ c1) gX6_hasThen_X6_isGood rfl rfl rfl ndX6_isGood ⟨Nat.le_of_ble_eq_true rfl, Nat.le_of_ble_eq_true rfl⟩ (by decide) rfl rfl rfl rfl (Nat.le_of_ble_eq_true rfl) rfl dX6_hasThen_2 ?_
  refine nx_if_eq (tgt := 18) C0 dX6_hasThen_5 (by decide) (fun q => ?_) (fun q => ?_)
  · have h := nift q h
    refine nx_iconst (v := -1) C0 dX6_hasThen_18 (by decide) ?_
    exact nr_i2 C0 hr dX6_hasThen_19 h
  · have h := niff q h
    refine nx_iload_n C0 2 dX6_hasThen_8 rfl ?_
    refine nx_iconst (v := 0) C0 dX6_hasThen_9 (by decide) ?_
    refine nx_bipush (v := 60) C0 dX6_hasThen_10 (by decide) ?_
    obtain ⟨r4, c3, h⟩ := nbind h
    refine nx_cSi (n := 3) (As := [.int x2, .int (0 : Int32), .int (60 : Int32)]) (st := []) C0 (mX6_isIn l D B hB x2 (0 : Int32) (60 : Int32) σ c3) gX6_hasThen_X6_isIn rfl rfl rfl ndX6_isIn ⟨Nat.le_of_ble_eq_true rfl, Nat.le_of_ble_eq_true rfl⟩ rfl (Nat.le_of_ble_eq_true rfl) rfl dX6_hasThen_12 ?_
    refine nx_if_ne (tgt := 20) C0 dX6_hasThen_15 (by decide) (fun q => ?_) (fun q => ?_)
    · have h := niff q h
      refine nx_aload_n C0 0 dX6_hasThen_20 rfl ?_
      refine nx_gX6_s C0 hh0 hh1 dX6_hasThen_21 ?_
      refine nx_aload_n C0 0 dX6_hasThen_24 rfl ?_
      refine nx_gX6_m C0 hh0 hh2 dX6_hasThen_25 ?_
      obtain ⟨r6, t7, c5, h⟩ := nbind2 h
      refine nx_cSv (n := 2) (As := [.ref (na B 64), .ref (na B 65)]) (st := []) C0 (mX6_copies l D B hB nR64 nR65 σ c5) gX6_hasThen_X6_copies rfl rfl rfl ndX6_copies ⟨Nat.le_of_ble_eq_true rfl, Nat.le_of_ble_eq_true rfl⟩ rfl (Nat.le_of_ble_eq_true rfl) rfl dX6_hasThen_28 ?_
      refine nx_aload_n C0 0 dX6_hasThen_31 rfl ?_
      refine nx_gX6_m C0 hh0 hh2 dX6_hasThen_32 ?_
      refine nx_iload_n C0 2 dX6_hasThen_35 rfl ?_
      obtain ⟨r9, t10, c8, h⟩ := nbind2 h
      refine nx_cSv (n := 2) (As := [.ref (na B 65), .int x2]) (st := []) C0 (mX6_weeksOn l D B hB nR65 x2 t7 c8) gX6_hasThen_X6_weeksOn rfl rfl rfl ndX6_weeksOn ⟨Nat.le_of_ble_eq_true rfl, Nat.le_of_ble_eq_true rfl⟩ rfl (Nat.le_of_ble_eq_true rfl) rfl dX6_hasThen_36 ?_
      refine nx_aload_n C0 0 dX6_hasThen_39 rfl ?_
      refine nx_gX6_m C0 hh0 hh2 dX6_hasThen_40 ?_
      refine nx_iload_n C0 1 dX6_hasThen_43 rfl ?_
      obtain ⟨r12, c11, h⟩ := nbind h
      refine nx_cSi (n := 1) (As := [.int x1]) (st := [.ref (na B 65)]) C0 (mX6_ofG l D B hB x1 t10 c11) gX6_hasThen_X6_ofG rfl rfl rfl ndX6_ofG ⟨Nat.le_of_ble_eq_true rfl, Nat.le_of_ble_eq_true rfl⟩ rfl (Nat.le_of_ble_eq_true rfl) rfl dX6_hasThen_44 ?_
      refine nx_iconst (v := 2) C0 dX6_hasThen_47 (by decide) ?_
      refine nx_iadd C0 dX6_hasThen_48 ?_
      obtain ⟨g13, h⟩ := nguard h
      refine nx_iald C0 nI_65 g13 dX6_hasThen_49 ?_
      exact nr_i2 C0 hr dX6_hasThen_50 h
    · have h := nift q h
      refine nx_iconst (v := -1) C0 dX6_hasThen_18 (by decide) ?_
      exact nr_i2 C0 hr dX6_hasThen_19 h
def rmX6_openThen : Room := { frames := 8, cells := 0, slots := 0, locals := 180 }
theorem ndX6_openThen : yX6_openThen.cls = RX6 ∧ yX6_openThen.cls ≠ "java/lang/invoke/MethodHandle" ∧ yX6_openThen.cls ≠ "java/lang/invoke/VarHandle" ∧ (parseMethodDescriptor yX6_openThen.desc).map (fun d => d.parameters.length) = some 1 := by decide +kernel
set_option maxRecDepth 100000 in
set_option maxHeartbeats 4000000 in
theorem mX6_openThen (l : Launch) (D : va_G) (B : nBT) (hB : nInj B) (x1 : Int32) (σ : nS) {r : Int32} {σ1 : nS} (h : fX6_openThen x1 σ = some (r, σ1)) : nMi l D B yX6_openThen wsX6_openThen rmX6_openThen [.ref (na B 63), .int x1] σ r σ1 := by
  refine nmet (cc := cX6_openThen) (maxL := 2) (ret := (some .int)) (own := RX6) (av := [.ref (na B 63), .int x1]) (nQi D B r σ1) hB (by decide) rfl rfl (Nat.le_of_ble_eq_true rfl) (fun p e s m args below meth c C0 hr => ?_)
  have hh0 : ∀ w ∈ wsX60, w ∈ wsX6_openThen := by decide +kernel
  have hh1 := C0.2.2.2.2.1 (Cond.fieldLink RX6 9 "NotInTheCoinModel" "s" "[I") (by decide +kernel)
  have hh2 := C0.2.2.2.2.1 (Cond.fieldLink RX6 13 "NotInTheCoinModel" "m" "[I") (by decide +kernel)
  refine nx_lv (lv' := [(0, .ref (na B 63)), (1, .int x1)]) [0, 1] rfl ?_
  rw [fX6_openThen] at h
  refine nx_iload_n C0 1 dX6_openThen_0 rfl ?_
  refine nx_iconst (v := 0) C0 dX6_openThen_1 (by decide) ?_
  refine nx_bipush (v := 60) C0 dX6_openThen_2 (by decide) ?_
  obtain ⟨r2, c1, h⟩ := nbind h
  refine nx_cSi (n := 3) (As := [.int x1, .int (0 : Int32), .int (60 : Int32)]) (st := []) C0 (mX6_isIn l D B hB x1 (0 : Int32) (60 : Int32) σ c1) gX6_openThen_X6_isIn rfl rfl rfl ndX6_isIn ⟨Nat.le_of_ble_eq_true rfl, Nat.le_of_ble_eq_true rfl⟩ rfl (Nat.le_of_ble_eq_true rfl) rfl dX6_openThen_4 ?_
  refine nx_if_ne (tgt := 12) C0 dX6_openThen_7 (by decide) (fun q => ?_) (fun q => ?_)
  · have h := niff q h
    refine nx_aload_n C0 0 dX6_openThen_12 rfl ?_
    refine nx_gX6_s C0 hh0 hh1 dX6_openThen_13 ?_
    refine nx_aload_n C0 0 dX6_openThen_16 rfl ?_
    refine nx_gX6_m C0 hh0 hh2 dX6_openThen_17 ?_
    obtain ⟨r4, t5, c3, h⟩ := nbind2 h
    refine nx_cSv (n := 2) (As := [.ref (na B 64), .ref (na B 65)]) (st := []) C0 (mX6_copies l D B hB nR64 nR65 σ c3) gX6_openThen_X6_copies rfl rfl rfl ndX6_copies ⟨Nat.le_of_ble_eq_true rfl, Nat.le_of_ble_eq_true rfl⟩ rfl (Nat.le_of_ble_eq_true rfl) rfl dX6_openThen_20 ?_
    refine nx_aload_n C0 0 dX6_openThen_23 rfl ?_
    refine nx_gX6_m C0 hh0 hh2 dX6_openThen_24 ?_
    refine nx_iload_n C0 1 dX6_openThen_27 rfl ?_
    obtain ⟨r7, t8, c6, h⟩ := nbind2 h
    refine nx_cSv (n := 2) (As := [.ref (na B 65), .int x1]) (st := []) C0 (mX6_weeksOn l D B hB nR65 x1 t5 c6) gX6_openThen_X6_weeksOn rfl rfl rfl ndX6_weeksOn ⟨Nat.le_of_ble_eq_true rfl, Nat.le_of_ble_eq_true rfl⟩ rfl (Nat.le_of_ble_eq_true rfl) rfl dX6_openThen_28 ?_
    refine nx_aload_n C0 0 dX6_openThen_31 rfl ?_
    refine nx_gX6_m C0 hh0 hh2 dX6_openThen_32 ?_
    obtain ⟨r10, c9, h⟩ := nbind h
    refine nx_cSi (n := 1) (As := [.ref (na B 65)]) (st := []) C0 (mX6_openIn l D B hB nR65 t8 c9) gX6_openThen_X6_openIn rfl rfl rfl ndX6_openIn ⟨Nat.le_of_ble_eq_true rfl, Nat.le_of_ble_eq_true rfl⟩ rfl (Nat.le_of_ble_eq_true rfl) rfl dX6_openThen_35 ?_
    obtain ⟨r12, c11, h⟩ := nbind h
    refine nx_cSi (n := 1) (As := [.int r10]) (st := []) C0 (mX6_bits l D B hB r10 t8 c11) gX6_openThen_X6_bits rfl rfl rfl ndX6_bits ⟨Nat.le_of_ble_eq_true rfl, Nat.le_of_ble_eq_true rfl⟩ rfl (Nat.le_of_ble_eq_true rfl) rfl dX6_openThen_38 ?_
    exact nr_i2 C0 hr dX6_openThen_41 h
  · have h := nift q h
    refine nx_iconst (v := -1) C0 dX6_openThen_10 (by decide) ?_
    exact nr_i2 C0 hr dX6_openThen_11 h
def rmX6_cleared : Room := { frames := 7, cells := 0, slots := 0, locals := 158 }
theorem ndX6_cleared : yX6_cleared.cls = RX6 ∧ yX6_cleared.cls ≠ "java/lang/invoke/MethodHandle" ∧ yX6_cleared.cls ≠ "java/lang/invoke/VarHandle" ∧ (parseMethodDescriptor yX6_cleared.desc).map (fun d => d.parameters.length) = some 0 := by decide +kernel
set_option maxRecDepth 100000 in
set_option maxHeartbeats 4000000 in
theorem mX6_cleared (l : Launch) (D : va_G) (B : nBT) (hB : nInj B)  (σ : nS) {r : Int32} {σ1 : nS} (h : fX6_cleared σ = some (r, σ1)) : nMi l D B yX6_cleared wsX6_cleared rmX6_cleared [.ref (na B 63)] σ r σ1 := by
  refine nmet (cc := cX6_cleared) (maxL := 2) (ret := (some .int)) (own := RX6) (av := [.ref (na B 63)]) (nQi D B r σ1) hB (by decide) rfl rfl (Nat.le_of_ble_eq_true rfl) (fun p e s m args below meth c C0 hr => ?_)
  have hh0 : ∀ w ∈ wsX60, w ∈ wsX6_cleared := by decide +kernel
  have hh1 := C0.2.2.2.2.1 (Cond.fieldLink RX6 13 "NotInTheCoinModel" "m" "[I") (by decide +kernel)
  have hh2 := C0.2.2.2.2.1 (Cond.fieldLink RX6 9 "NotInTheCoinModel" "s" "[I") (by decide +kernel)
  have hfX6_cleared_b13 : ∀  (n : Nat) (a1 : Int32) (σ : nS) (h : fX6_cleared_b13  n a1 σ = some (r, σ1)), nJ p l e rmX6_cleared s m args below meth c 0 0 (MQ below (nQi D B r σ1 s.heap.size) args s 0 0 (nA B s.heap.size)) D B 2 13 [(0, .ref (na B 63)), (1, .int a1)] [] σ := by
    intro  n
    induction n with
    | zero => intro a1 σ h; cases h
    | succ n ih =>
        intro a1 σ h
        rw [fX6_cleared_b13] at h
        refine nx_iload_n C0 1 dX6_cleared_13 rfl ?_
        refine nx_bipush (v := 60) C0 dX6_cleared_14 (by decide) ?_
        refine nx_icmp_gt (tgt := 44) C0 dX6_cleared_16 (by decide) (fun q => ?_) (fun q => ?_)
        · have h := nift q h
          refine nx_bipush (v := -4) C0 dX6_cleared_44 (by decide) ?_
          exact nr_i2 C0 hr dX6_cleared_46 h
        · have h := niff q h
          refine nx_aload_n C0 0 dX6_cleared_19 rfl ?_
          refine nx_gX6_m C0 hh0 hh1 dX6_cleared_20 ?_
          obtain ⟨r2, c1, h⟩ := nbind h
          refine nx_cSi (n := 1) (As := [.ref (na B 65)]) (st := []) C0 (mX6_openIn l D B hB nR65 σ c1) gX6_cleared_X6_openIn rfl rfl rfl ndX6_openIn ⟨Nat.le_of_ble_eq_true rfl, Nat.le_of_ble_eq_true rfl⟩ rfl (Nat.le_of_ble_eq_true rfl) rfl dX6_cleared_23 ?_
          refine nx_if_ne (tgt := 31) C0 dX6_cleared_26 (by decide) (fun q => ?_) (fun q => ?_)
          · have h := niff q h
            refine nx_aload_n C0 0 dX6_cleared_31 rfl ?_
            refine nx_gX6_m C0 hh0 hh1 dX6_cleared_32 ?_
            obtain ⟨r4, t5, c3, h⟩ := nbind2 h
            refine nx_cSv (n := 1) (As := [.ref (na B 65)]) (st := []) C0 (mX6_week l D B hB nR65 σ c3) gX6_cleared_X6_week rfl rfl rfl ndX6_week ⟨Nat.le_of_ble_eq_true rfl, Nat.le_of_ble_eq_true rfl⟩ rfl (Nat.le_of_ble_eq_true rfl) rfl dX6_cleared_35 ?_
            obtain ⟨v6, ev6, h⟩ := nlet h
            refine nx_iinc (v := v6) (lv' := [(1, .int v6), (0, .ref (na B 63))]) C0 1 dX6_cleared_38 rfl ev6 (by decide) rfl ?_
            refine nx_goto (tgt := 13) C0 dX6_cleared_41 (by decide) ?_
            refine nx_lv (lv' := [(0, .ref (na B 63)), (1, .int v6)]) [1, 0] rfl ?_
            exact ih v6 t5 h
          · have h := nift q h
            refine nx_iload_n C0 1 dX6_cleared_29 rfl ?_
            exact nr_i2 C0 hr dX6_cleared_30 h
  refine nx_lv (lv' := [(0, .ref (na B 63))]) [0] rfl ?_
  rw [fX6_cleared] at h
  refine nx_aload_n C0 0 dX6_cleared_0 rfl ?_
  refine nx_gX6_s C0 hh0 hh2 dX6_cleared_1 ?_
  refine nx_aload_n C0 0 dX6_cleared_4 rfl ?_
  refine nx_gX6_m C0 hh0 hh1 dX6_cleared_5 ?_
  obtain ⟨r8, t9, c7, h⟩ := nbind2 h
  refine nx_cSv (n := 2) (As := [.ref (na B 64), .ref (na B 65)]) (st := []) C0 (mX6_copies l D B hB nR64 nR65 σ c7) gX6_cleared_X6_copies rfl rfl rfl ndX6_copies ⟨Nat.le_of_ble_eq_true rfl, Nat.le_of_ble_eq_true rfl⟩ rfl (Nat.le_of_ble_eq_true rfl) rfl dX6_cleared_8 ?_
  refine nx_iconst (v := 0) C0 dX6_cleared_11 (by decide) ?_
  refine nx_istore_n (i := 1) (y := (0 : Int32)) (lv' := [(1, .int (0 : Int32)), (0, .ref (na B 63))]) C0 dX6_cleared_12 rfl (by decide) rfl rfl ?_
  refine nx_lv (lv' := [(0, .ref (na B 63)), (1, .int (0 : Int32))]) [1, 0] rfl ?_
  exact hfX6_cleared_b13 4096 (0 : Int32) t9 h
def rmX6_richest : Room := { frames := 4, cells := 0, slots := 0, locals := 90 }
theorem ndX6_richest : yX6_richest.cls = RX6 ∧ yX6_richest.cls ≠ "java/lang/invoke/MethodHandle" ∧ yX6_richest.cls ≠ "java/lang/invoke/VarHandle" ∧ (parseMethodDescriptor yX6_richest.desc).map (fun d => d.parameters.length) = some 0 := by decide +kernel
set_option maxRecDepth 100000 in
set_option maxHeartbeats 4000000 in
theorem mX6_richest (l : Launch) (D : va_G) (B : nBT) (hB : nInj B)  (σ : nS) {r : Int32}  (h : fX6_richest σ = some r) : nMi l D B yX6_richest wsX6_richest rmX6_richest [.ref (na B 63)] σ r σ := by
  refine nmet (cc := cX6_richest) (maxL := 3) (ret := (some .int)) (own := RX6) (av := [.ref (na B 63)]) (nQi D B r σ) hB (by decide) rfl rfl (Nat.le_of_ble_eq_true rfl) (fun p e s m args below meth c C0 hr => ?_)
  have hh0 : ∀ w ∈ wsX60, w ∈ wsX6_richest := by decide +kernel
  have hh1 := C0.2.2.2.2.1 (Cond.fieldLink RX6 9 "NotInTheCoinModel" "s" "[I") (by decide +kernel)
  have hfX6_richest_b5 : ∀  (n : Nat) (a1 : Int32) (a2 : Int32) (h : fX6_richest_b5  n a1 a2 σ = some r), nJ p l e rmX6_richest s m args below meth c 0 0 (MQ below (nQi D B r σ s.heap.size) args s 0 0 (nA B s.heap.size)) D B 3 5 [(0, .ref (na B 63)), (1, .int a1), (2, .int a2)] [] σ := by
    intro  n
    induction n with
    | zero => intro a1 a2 h; cases h
    | succ n ih =>
        intro a1 a2 h
        rw [fX6_richest_b5] at h
        refine nx_iload_n C0 2 dX6_richest_5 rfl ?_
        refine nx_aload_n C0 0 dX6_richest_6 rfl ?_
        refine nx_gX6_s C0 hh0 hh1 dX6_richest_7 ?_
        refine nx_iconst (v := 1) C0 dX6_richest_10 (by decide) ?_
        obtain ⟨g1, h⟩ := nguard h
        refine nx_iald C0 nI_64 g1 dX6_richest_11 ?_
        refine nx_icmp_ge (tgt := 46) C0 dX6_richest_12 (by decide) (fun q => ?_) (fun q => ?_)
        · have h := nift q h
          refine nx_iload_n C0 1 dX6_richest_46 rfl ?_
          exact nr_i C0 hr dX6_richest_47 h
        · have h := niff q h
          refine nx_iload_n C0 1 dX6_richest_15 rfl ?_
          refine nx_if_lt (tgt := 38) C0 dX6_richest_16 (by decide) (fun q => ?_) (fun q => ?_)
          · have h := nift q h
            refine nx_iload_n C0 2 dX6_richest_38 rfl ?_
            refine nx_istore_n (i := 1) (y := a2) (lv' := [(1, .int a2), (0, .ref (na B 63)), (2, .int a2)]) C0 dX6_richest_39 rfl (by decide) rfl rfl ?_
            obtain ⟨v2, ev2, h⟩ := nlet h
            refine nx_iinc (v := v2) (lv' := [(2, .int v2), (1, .int a2), (0, .ref (na B 63))]) C0 2 dX6_richest_40 rfl ev2 (by decide) rfl ?_
            refine nx_goto (tgt := 5) C0 dX6_richest_43 (by decide) ?_
            refine nx_lv (lv' := [(0, .ref (na B 63)), (1, .int a2), (2, .int v2)]) [2, 1, 0] rfl ?_
            exact ih a2 v2 h
          · have h := niff q h
            refine nx_aload_n C0 0 dX6_richest_19 rfl ?_
            refine nx_gX6_s C0 hh0 hh1 dX6_richest_20 ?_
            refine nx_iload_n C0 2 dX6_richest_23 rfl ?_
            obtain ⟨r4, c3, h⟩ := nbind h
            refine nx_cSi (n := 2) (As := [.ref (na B 64), .int a2]) (st := []) C0 (mX6_richesOf l D B hB nR64 a2 σ c3) gX6_richest_X6_richesOf rfl rfl rfl ndX6_richesOf ⟨Nat.le_of_ble_eq_true rfl, Nat.le_of_ble_eq_true rfl⟩ rfl (Nat.le_of_ble_eq_true rfl) rfl dX6_richest_24 ?_
            refine nx_aload_n C0 0 dX6_richest_27 rfl ?_
            refine nx_gX6_s C0 hh0 hh1 dX6_richest_28 ?_
            refine nx_iload_n C0 1 dX6_richest_31 rfl ?_
            obtain ⟨r6, c5, h⟩ := nbind h
            refine nx_cSi (n := 2) (As := [.ref (na B 64), .int a1]) (st := [.int r4]) C0 (mX6_richesOf l D B hB nR64 a1 σ c5) gX6_richest_X6_richesOf rfl rfl rfl ndX6_richesOf ⟨Nat.le_of_ble_eq_true rfl, Nat.le_of_ble_eq_true rfl⟩ rfl (Nat.le_of_ble_eq_true rfl) rfl dX6_richest_32 ?_
            refine nx_icmp_le (tgt := 40) C0 dX6_richest_35 (by decide) (fun q => ?_) (fun q => ?_)
            · have h := nift q h
              obtain ⟨v7, ev7, h⟩ := nlet h
              refine nx_iinc (v := v7) (lv' := [(2, .int v7), (0, .ref (na B 63)), (1, .int a1)]) C0 2 dX6_richest_40 rfl ev7 (by decide) rfl ?_
              refine nx_goto (tgt := 5) C0 dX6_richest_43 (by decide) ?_
              refine nx_lv (lv' := [(0, .ref (na B 63)), (1, .int a1), (2, .int v7)]) [1, 2, 0] rfl ?_
              exact ih a1 v7 h
            · have h := niff q h
              refine nx_iload_n C0 2 dX6_richest_38 rfl ?_
              refine nx_istore_n (i := 1) (y := a2) (lv' := [(1, .int a2), (0, .ref (na B 63)), (2, .int a2)]) C0 dX6_richest_39 rfl (by decide) rfl rfl ?_
              obtain ⟨v8, ev8, h⟩ := nlet h
              refine nx_iinc (v := v8) (lv' := [(2, .int v8), (1, .int a2), (0, .ref (na B 63))]) C0 2 dX6_richest_40 rfl ev8 (by decide) rfl ?_
              refine nx_goto (tgt := 5) C0 dX6_richest_43 (by decide) ?_
              refine nx_lv (lv' := [(0, .ref (na B 63)), (1, .int a2), (2, .int v8)]) [2, 1, 0] rfl ?_
              exact ih a2 v8 h
  refine nx_lv (lv' := [(0, .ref (na B 63))]) [0] rfl ?_
  rw [fX6_richest] at h
  refine nx_bipush (v := -4) C0 dX6_richest_0 (by decide) ?_
  refine nx_istore_n (i := 1) (y := (-4 : Int32)) (lv' := [(1, .int (-4 : Int32)), (0, .ref (na B 63))]) C0 dX6_richest_2 rfl (by decide) rfl rfl ?_
  refine nx_iconst (v := 0) C0 dX6_richest_3 (by decide) ?_
  refine nx_istore_n (i := 2) (y := (0 : Int32)) (lv' := [(2, .int (0 : Int32)), (1, .int (-4 : Int32)), (0, .ref (na B 63))]) C0 dX6_richest_4 rfl (by decide) rfl rfl ?_
  refine nx_lv (lv' := [(0, .ref (na B 63)), (1, .int (-4 : Int32)), (2, .int (0 : Int32))]) [2, 1, 0] rfl ?_
  exact hfX6_richest_b5 4096 (-4 : Int32) (0 : Int32) h
def rmX6_worstOf : Room := { frames := 3, cells := 0, slots := 0, locals := 67 }
theorem ndX6_worstOf : yX6_worstOf.cls = RX6 ∧ yX6_worstOf.cls ≠ "java/lang/invoke/MethodHandle" ∧ yX6_worstOf.cls ≠ "java/lang/invoke/VarHandle" ∧ (parseMethodDescriptor yX6_worstOf.desc).map (fun d => d.parameters.length) = some 1 := by decide +kernel
set_option maxRecDepth 100000 in
set_option maxHeartbeats 4000000 in
theorem mX6_worstOf (l : Launch) (D : va_G) (B : nBT) (hB : nInj B) (x1 : Int32) (σ : nS) {r : Int32}  (h : fX6_worstOf x1 σ = some r) : nMi l D B yX6_worstOf wsX6_worstOf rmX6_worstOf [.ref (na B 63), .int x1] σ r σ := by
  refine nmet (cc := cX6_worstOf) (maxL := 4) (ret := (some .int)) (own := RX6) (av := [.ref (na B 63), .int x1]) (nQi D B r σ) hB (by decide) rfl rfl (Nat.le_of_ble_eq_true rfl) (fun p e s m args below meth c C0 hr => ?_)
  have hh0 : ∀ w ∈ wsX60, w ∈ wsX6_worstOf := by decide +kernel
  have hh1 := C0.2.2.2.2.1 (Cond.fieldLink RX6 9 "NotInTheCoinModel" "s" "[I") (by decide +kernel)
  have hfX6_worstOf_b5 : ∀  (n : Nat) (a1 : Int32) (a2 : Int32) (a3 : Int32) (h : fX6_worstOf_b5  n a1 a2 a3 σ = some r), nJ p l e rmX6_worstOf s m args below meth c 0 0 (MQ below (nQi D B r σ s.heap.size) args s 0 0 (nA B s.heap.size)) D B 4 5 [(0, .ref (na B 63)), (1, .int a1), (2, .int a2), (3, .int a3)] [] σ := by
    intro  n
    induction n with
    | zero => intro a1 a2 a3 h; cases h
    | succ n ih =>
        intro a1 a2 a3 h
        rw [fX6_worstOf_b5] at h
        refine nx_iload_n C0 3 dX6_worstOf_5 rfl ?_
        refine nx_aload_n C0 0 dX6_worstOf_6 rfl ?_
        refine nx_gX6_s C0 hh0 hh1 dX6_worstOf_7 ?_
        refine nx_iconst (v := 0) C0 dX6_worstOf_10 (by decide) ?_
        obtain ⟨g1, h⟩ := nguard h
        refine nx_iald C0 nI_64 g1 dX6_worstOf_11 ?_
        refine nx_icmp_ge (tgt := 63) C0 dX6_worstOf_12 (by decide) (fun q => ?_) (fun q => ?_)
        · have h := nift q h
          refine nx_iload_n C0 2 dX6_worstOf_63 rfl ?_
          exact nr_i C0 hr dX6_worstOf_64 h
        · have h := niff q h
          refine nx_aload_n C0 0 dX6_worstOf_15 rfl ?_
          refine nx_gX6_s C0 hh0 hh1 dX6_worstOf_16 ?_
          refine nx_iload_n C0 3 dX6_worstOf_19 rfl ?_
          obtain ⟨r3, c2, h⟩ := nbind h
          refine nx_cSi (n := 1) (As := [.int a3]) (st := [.ref (na B 64)]) C0 (mX6_ofG l D B hB a3 σ c2) gX6_worstOf_X6_ofG rfl rfl rfl ndX6_ofG ⟨Nat.le_of_ble_eq_true rfl, Nat.le_of_ble_eq_true rfl⟩ rfl (Nat.le_of_ble_eq_true rfl) rfl dX6_worstOf_20 ?_
          refine nx_iconst (v := 2) C0 dX6_worstOf_23 (by decide) ?_
          refine nx_iadd C0 dX6_worstOf_24 ?_
          obtain ⟨g4, h⟩ := nguard h
          refine nx_iald C0 nI_64 g4 dX6_worstOf_25 ?_
          refine nx_iload_n C0 1 dX6_worstOf_26 rfl ?_
          refine nx_icmp_ne (tgt := 57) C0 dX6_worstOf_27 (by decide) (fun q => ?_) (fun q => ?_)
          · have h := niff q h
            obtain ⟨v5, ev5, h⟩ := nlet h
            refine nx_iinc (v := v5) (lv' := [(3, .int v5), (0, .ref (na B 63)), (1, .int a1), (2, .int a2)]) C0 3 dX6_worstOf_57 rfl ev5 (by decide) rfl ?_
            refine nx_goto (tgt := 5) C0 dX6_worstOf_60 (by decide) ?_
            refine nx_lv (lv' := [(0, .ref (na B 63)), (1, .int a1), (2, .int a2), (3, .int v5)]) [1, 2, 3, 0] rfl ?_
            exact ih a1 a2 v5 h
          · have h := nift q h
            refine nx_iload_n C0 2 dX6_worstOf_30 rfl ?_
            refine nx_if_lt (tgt := 55) C0 dX6_worstOf_31 (by decide) (fun q => ?_) (fun q => ?_)
            · have h := nift q h
              refine nx_iload_n C0 3 dX6_worstOf_55 rfl ?_
              refine nx_istore_n (i := 2) (y := a3) (lv' := [(2, .int a3), (0, .ref (na B 63)), (1, .int a1), (3, .int a3)]) C0 dX6_worstOf_56 rfl (by decide) rfl rfl ?_
              obtain ⟨v6, ev6, h⟩ := nlet h
              refine nx_iinc (v := v6) (lv' := [(3, .int v6), (2, .int a3), (0, .ref (na B 63)), (1, .int a1)]) C0 3 dX6_worstOf_57 rfl ev6 (by decide) rfl ?_
              refine nx_goto (tgt := 5) C0 dX6_worstOf_60 (by decide) ?_
              refine nx_lv (lv' := [(0, .ref (na B 63)), (1, .int a1), (2, .int a3), (3, .int v6)]) [2, 3, 1, 0] rfl ?_
              exact ih a1 a3 v6 h
            · have h := niff q h
              refine nx_aload_n C0 0 dX6_worstOf_34 rfl ?_
              refine nx_gX6_s C0 hh0 hh1 dX6_worstOf_35 ?_
              refine nx_iload_n C0 1 dX6_worstOf_38 rfl ?_
              refine nx_iload_n C0 3 dX6_worstOf_39 rfl ?_
              obtain ⟨r8, c7, h⟩ := nbind h
              refine nx_cSi (n := 3) (As := [.ref (na B 64), .int a1, .int a3]) (st := []) C0 (mX6_worthIn l D B hB nR64 a1 a3 σ c7) gX6_worstOf_X6_worthIn rfl rfl rfl ndX6_worthIn ⟨Nat.le_of_ble_eq_true rfl, Nat.le_of_ble_eq_true rfl⟩ rfl (Nat.le_of_ble_eq_true rfl) rfl dX6_worstOf_40 ?_
              refine nx_aload_n C0 0 dX6_worstOf_43 rfl ?_
              refine nx_gX6_s C0 hh0 hh1 dX6_worstOf_44 ?_
              refine nx_iload_n C0 1 dX6_worstOf_47 rfl ?_
              refine nx_iload_n C0 2 dX6_worstOf_48 rfl ?_
              obtain ⟨r10, c9, h⟩ := nbind h
              refine nx_cSi (n := 3) (As := [.ref (na B 64), .int a1, .int a2]) (st := [.int r8]) C0 (mX6_worthIn l D B hB nR64 a1 a2 σ c9) gX6_worstOf_X6_worthIn rfl rfl rfl ndX6_worthIn ⟨Nat.le_of_ble_eq_true rfl, Nat.le_of_ble_eq_true rfl⟩ rfl (Nat.le_of_ble_eq_true rfl) rfl dX6_worstOf_49 ?_
              refine nx_icmp_ge (tgt := 57) C0 dX6_worstOf_52 (by decide) (fun q => ?_) (fun q => ?_)
              · have h := nift q h
                obtain ⟨v11, ev11, h⟩ := nlet h
                refine nx_iinc (v := v11) (lv' := [(3, .int v11), (0, .ref (na B 63)), (1, .int a1), (2, .int a2)]) C0 3 dX6_worstOf_57 rfl ev11 (by decide) rfl ?_
                refine nx_goto (tgt := 5) C0 dX6_worstOf_60 (by decide) ?_
                refine nx_lv (lv' := [(0, .ref (na B 63)), (1, .int a1), (2, .int a2), (3, .int v11)]) [1, 2, 3, 0] rfl ?_
                exact ih a1 a2 v11 h
              · have h := niff q h
                refine nx_iload_n C0 3 dX6_worstOf_55 rfl ?_
                refine nx_istore_n (i := 2) (y := a3) (lv' := [(2, .int a3), (0, .ref (na B 63)), (1, .int a1), (3, .int a3)]) C0 dX6_worstOf_56 rfl (by decide) rfl rfl ?_
                obtain ⟨v12, ev12, h⟩ := nlet h
                refine nx_iinc (v := v12) (lv' := [(3, .int v12), (2, .int a3), (0, .ref (na B 63)), (1, .int a1)]) C0 3 dX6_worstOf_57 rfl ev12 (by decide) rfl ?_
                refine nx_goto (tgt := 5) C0 dX6_worstOf_60 (by decide) ?_
                refine nx_lv (lv' := [(0, .ref (na B 63)), (1, .int a1), (2, .int a3), (3, .int v12)]) [2, 3, 1, 0] rfl ?_
                exact ih a1 a3 v12 h
  refine nx_lv (lv' := [(0, .ref (na B 63)), (1, .int x1)]) [0, 1] rfl ?_
  rw [fX6_worstOf] at h
  refine nx_bipush (v := -4) C0 dX6_worstOf_0 (by decide) ?_
  refine nx_istore_n (i := 2) (y := (-4 : Int32)) (lv' := [(2, .int (-4 : Int32)), (0, .ref (na B 63)), (1, .int x1)]) C0 dX6_worstOf_2 rfl (by decide) rfl rfl ?_
  refine nx_iconst (v := 0) C0 dX6_worstOf_3 (by decide) ?_
  refine nx_istore_n (i := 3) (y := (0 : Int32)) (lv' := [(3, .int (0 : Int32)), (2, .int (-4 : Int32)), (0, .ref (na B 63)), (1, .int x1)]) C0 dX6_worstOf_4 rfl (by decide) rfl rfl ?_
  refine nx_lv (lv' := [(0, .ref (na B 63)), (1, .int x1), (2, .int (-4 : Int32)), (3, .int (0 : Int32))]) [2, 3, 1, 0] rfl ?_
  exact hfX6_worstOf_b5 4096 x1 (-4 : Int32) (0 : Int32) h
def rmX6_worst : Room := { frames := 4, cells := 0, slots := 0, locals := 90 }
theorem ndX6_worst : yX6_worst.cls = RX6 ∧ yX6_worst.cls ≠ "java/lang/invoke/MethodHandle" ∧ yX6_worst.cls ≠ "java/lang/invoke/VarHandle" ∧ (parseMethodDescriptor yX6_worst.desc).map (fun d => d.parameters.length) = some 1 := by decide +kernel
set_option maxRecDepth 100000 in
set_option maxHeartbeats 4000000 in
theorem mX6_worst (l : Launch) (D : va_G) (B : nBT) (hB : nInj B) (x1 : Int32) (σ : nS) {r : Int32}  (h : fX6_worst x1 σ = some r) : nMi l D B yX6_worst wsX6_worst rmX6_worst [.ref (na B 63), .int x1] σ r σ := by
  refine nmet (cc := cX6_worst) (maxL := 2) (ret := (some .int)) (own := RX6) (av := [.ref (na B 63), .int x1]) (nQi D B r σ) hB (by decide) rfl rfl (Nat.le_of_ble_eq_true rfl) (fun p e s m args below meth c C0 hr => ?_)
  refine nx_lv (lv' := [(0, .ref (na B 63)), (1, .int x1)]) [0, 1] rfl ?_
  rw [fX6_worst] at h
  refine nx_aload_n C0 0 dX6_worst_0 rfl ?_
  refine nx_iload_n C0 1 dX6_worst_1 rfl ?_
  obtain ⟨r2, c1, h⟩ := nbind h
  refine nx_cVi (ci := 6) (n := 1) (As := [.int x1]) (st := []) C0 (mX6_isPerson l D B hB x1 σ c1) gX6_worst_X6_isPerson rfl rfl rfl ndX6_isPerson ⟨Nat.le_of_ble_eq_true rfl, Nat.le_of_ble_eq_true rfl⟩ (by decide) rfl rfl rfl rfl (Nat.le_of_ble_eq_true rfl) rfl dX6_worst_2 ?_
  refine nx_if_eq (tgt := 16) C0 dX6_worst_5 (by decide) (fun q => ?_) (fun q => ?_)
  · have h := nift q h
    refine nx_iconst (v := -1) C0 dX6_worst_16 (by decide) ?_
    exact nr_i C0 hr dX6_worst_17 h
  · have h := niff q h
    refine nx_aload_n C0 0 dX6_worst_8 rfl ?_
    refine nx_iload_n C0 1 dX6_worst_9 rfl ?_
    obtain ⟨r4, c3, h⟩ := nbind h
    refine nx_cVi (ci := 6) (n := 1) (As := [.int x1]) (st := []) C0 (mX6_worstOf l D B hB x1 σ c3) gX6_worst_X6_worstOf rfl rfl rfl ndX6_worstOf ⟨Nat.le_of_ble_eq_true rfl, Nat.le_of_ble_eq_true rfl⟩ (by decide) rfl rfl rfl rfl (Nat.le_of_ble_eq_true rfl) rfl dX6_worst_10 ?_
    refine nx_goto (tgt := 17) C0 dX6_worst_13 (by decide) ?_
    exact nr_i C0 hr dX6_worst_17 h
def rmX6_stepsOf : Room := { frames := 5, cells := 0, slots := 0, locals := 114 }
theorem ndX6_stepsOf : yX6_stepsOf.cls = RX6 ∧ yX6_stepsOf.cls ≠ "java/lang/invoke/MethodHandle" ∧ yX6_stepsOf.cls ≠ "java/lang/invoke/VarHandle" ∧ (parseMethodDescriptor yX6_stepsOf.desc).map (fun d => d.parameters.length) = some 3 := by decide +kernel
set_option maxRecDepth 100000 in
set_option maxHeartbeats 4000000 in
theorem mX6_stepsOf (l : Launch) (D : va_G) (B : nBT) (hB : nInj B) (x1 : Int32) (x2 : Int32) (x3 : Int32) (σ : nS) {r : Int32}  (h : fX6_stepsOf x1 x2 x3 σ = some r) : nMi l D B yX6_stepsOf wsX6_stepsOf rmX6_stepsOf [.ref (na B 63), .int x1, .int x2, .int x3] σ r σ := by
  refine nmet (cc := cX6_stepsOf) (maxL := 8) (ret := (some .int)) (own := RX6) (av := [.ref (na B 63), .int x1, .int x2, .int x3]) (nQi D B r σ) hB (by decide) rfl rfl (Nat.le_of_ble_eq_true rfl) (fun p e s m args below meth c C0 hr => ?_)
  have hh0 : ∀ w ∈ wsX60, w ∈ wsX6_stepsOf := by decide +kernel
  have hh1 := C0.2.2.2.2.1 (Cond.fieldLink RX6 9 "NotInTheCoinModel" "s" "[I") (by decide +kernel)
  have hfX6_stepsOf_b34 : ∀ (s8 : Int32 → Int32 → Int32 → Int32 → nS → Option Int32) (hs8 : ∀ (a1 : Int32) (a3 : Int32) (a4 : Int32) (a5 : Int32), s8 a1 a3 a4 a5 σ = some r → nJ p l e rmX6_stepsOf s m args below meth c 0 0 (MQ below (nQi D B r σ s.heap.size) args s 0 0 (nA B s.heap.size)) D B 8 8 [(0, .ref (na B 63)), (1, .int a1), (3, .int a3), (4, .int a4), (5, .int a5)] [] σ) (n : Nat) (a1 : Int32) (a3 : Int32) (a4 : Int32) (a5 : Int32) (a6 : Int32) (a7 : Int32) (h : fX6_stepsOf_b34 s8 n a1 a3 a4 a5 a6 a7 σ = some r), nJ p l e rmX6_stepsOf s m args below meth c 0 0 (MQ below (nQi D B r σ s.heap.size) args s 0 0 (nA B s.heap.size)) D B 8 34 [(0, .ref (na B 63)), (1, .int a1), (3, .int a3), (4, .int a4), (5, .int a5), (6, .int a6), (7, .int a7)] [] σ := by
    intro s8 hs8 n
    induction n with
    | zero => intro a1 a3 a4 a5 a6 a7 h; cases h
    | succ n ih =>
        intro a1 a3 a4 a5 a6 a7 h
        rw [fX6_stepsOf_b34] at h
        refine nx_iload C0 6 dX6_stepsOf_34 rfl ?_
        refine nx_aload_n C0 0 dX6_stepsOf_36 rfl ?_
        refine nx_gX6_s C0 hh0 hh1 dX6_stepsOf_37 ?_
        refine nx_iconst (v := 0) C0 dX6_stepsOf_40 (by decide) ?_
        obtain ⟨g1, h⟩ := nguard h
        refine nx_iald C0 nI_64 g1 dX6_stepsOf_41 ?_
        refine nx_icmp_ge (tgt := 77) C0 dX6_stepsOf_42 (by decide) (fun q => ?_) (fun q => ?_)
        · have h := nift q h
          refine nx_iload C0 5 dX6_stepsOf_77 rfl ?_
          refine nx_istore (i := 4) (y := a6) (lv' := [(4, .int a6), (0, .ref (na B 63)), (1, .int a1), (3, .int a3), (5, .int a5), (6, .int a6), (7, .int a7)]) C0 dX6_stepsOf_79 (by decide) rfl rfl ?_
          obtain ⟨v2, ev2, h⟩ := nlet h
          refine nx_iinc (v := v2) (lv' := [(5, .int v2), (4, .int a6), (0, .ref (na B 63)), (1, .int a1), (3, .int a3), (6, .int a6), (7, .int a7)]) C0 4 dX6_stepsOf_81 rfl ev2 (by decide) rfl ?_
          refine nx_goto (tgt := 8) C0 dX6_stepsOf_84 (by decide) ?_
          refine nx_lv (lv' := [(0, .ref (na B 63)), (1, .int a1), (3, .int a3), (4, .int a6), (5, .int v2)]) [2, 3, 4, 1, 0] rfl ?_
          exact hs8 a1 a3 a6 v2 h
        · have h := niff q h
          refine nx_iload C0 5 dX6_stepsOf_45 rfl ?_
          refine nx_iload C0 3 dX6_stepsOf_47 rfl ?_
          refine nx_iload C0 6 dX6_stepsOf_49 rfl ?_
          obtain ⟨r4, c3, h⟩ := nbind h
          refine nx_cSi (n := 2) (As := [.int a4, .int a7]) (st := [.int a6]) C0 (mX6_has l D B hB a4 a7 σ c3) gX6_stepsOf_X6_has rfl rfl rfl ndX6_has ⟨Nat.le_of_ble_eq_true rfl, Nat.le_of_ble_eq_true rfl⟩ rfl (Nat.le_of_ble_eq_true rfl) rfl dX6_stepsOf_51 ?_
          refine nx_if_eq (tgt := 67) C0 dX6_stepsOf_54 (by decide) (fun q => ?_) (fun q => ?_)
          · have h := nift q h
            refine nx_iconst (v := 0) C0 dX6_stepsOf_67 (by decide) ?_
            refine nx_ior C0 dX6_stepsOf_68 ?_
            obtain ⟨v5, ev5, h⟩ := nlet h
            refine nx_istore (i := 6) (y := v5) (lv' := [(6, .int v5), (0, .ref (na B 63)), (1, .int a1), (3, .int a3), (4, .int a4), (5, .int a5), (7, .int a7)]) C0 dX6_stepsOf_69 (by decide) ev5 rfl ?_
            obtain ⟨v6, ev6, h⟩ := nlet h
            refine nx_iinc (v := v6) (lv' := [(7, .int v6), (6, .int v5), (0, .ref (na B 63)), (1, .int a1), (3, .int a3), (4, .int a4), (5, .int a5)]) C0 6 dX6_stepsOf_71 rfl ev6 (by decide) rfl ?_
            refine nx_goto (tgt := 34) C0 dX6_stepsOf_74 (by decide) ?_
            refine nx_lv (lv' := [(0, .ref (na B 63)), (1, .int a1), (3, .int a3), (4, .int a4), (5, .int a5), (6, .int v5), (7, .int v6)]) [2, 3, 4, 5, 6, 1, 0] rfl ?_
            exact ih a1 a3 a4 a5 v5 v6 h
          · have h := niff q h
            refine nx_aload_n C0 0 dX6_stepsOf_57 rfl ?_
            refine nx_iload_n C0 1 dX6_stepsOf_58 rfl ?_
            refine nx_iload C0 6 dX6_stepsOf_59 rfl ?_
            obtain ⟨r8, c7, h⟩ := nbind h
            refine nx_cVi (ci := 6) (n := 2) (As := [.int a1, .int a7]) (st := [.int a6]) C0 (mX6_takesOf l D B hB a1 a7 σ c7) gX6_stepsOf_X6_takesOf rfl rfl rfl ndX6_takesOf ⟨Nat.le_of_ble_eq_true rfl, Nat.le_of_ble_eq_true rfl⟩ (by decide) rfl rfl rfl rfl (Nat.le_of_ble_eq_true rfl) rfl dX6_stepsOf_61 ?_
            refine nx_goto (tgt := 68) C0 dX6_stepsOf_64 (by decide) ?_
            refine nx_ior C0 dX6_stepsOf_68 ?_
            obtain ⟨v9, ev9, h⟩ := nlet h
            refine nx_istore (i := 6) (y := v9) (lv' := [(6, .int v9), (0, .ref (na B 63)), (1, .int a1), (3, .int a3), (4, .int a4), (5, .int a5), (7, .int a7)]) C0 dX6_stepsOf_69 (by decide) ev9 rfl ?_
            obtain ⟨v10, ev10, h⟩ := nlet h
            refine nx_iinc (v := v10) (lv' := [(7, .int v10), (6, .int v9), (0, .ref (na B 63)), (1, .int a1), (3, .int a3), (4, .int a4), (5, .int a5)]) C0 6 dX6_stepsOf_71 rfl ev10 (by decide) rfl ?_
            refine nx_goto (tgt := 34) C0 dX6_stepsOf_74 (by decide) ?_
            refine nx_lv (lv' := [(0, .ref (na B 63)), (1, .int a1), (3, .int a3), (4, .int a4), (5, .int a5), (6, .int v9), (7, .int v10)]) [2, 3, 4, 5, 6, 1, 0] rfl ?_
            exact ih a1 a3 a4 a5 v9 v10 h
  have hfX6_stepsOf_b8 : ∀  (n : Nat) (a1 : Int32) (a3 : Int32) (a4 : Int32) (a5 : Int32) (h : fX6_stepsOf_b8  n a1 a3 a4 a5 σ = some r), nJ p l e rmX6_stepsOf s m args below meth c 0 0 (MQ below (nQi D B r σ s.heap.size) args s 0 0 (nA B s.heap.size)) D B 8 8 [(0, .ref (na B 63)), (1, .int a1), (3, .int a3), (4, .int a4), (5, .int a5)] [] σ := by
    intro  n
    induction n with
    | zero => intro a1 a3 a4 a5 h; cases h
    | succ n ih =>
        intro a1 a3 a4 a5 h
        rw [fX6_stepsOf_b8] at h
        refine nx_iload C0 4 dX6_stepsOf_8 rfl ?_
        refine nx_bipush (v := 8) C0 dX6_stepsOf_10 (by decide) ?_
        refine nx_icmp_ge (tgt := 87) C0 dX6_stepsOf_12 (by decide) (fun q => ?_) (fun q => ?_)
        · have h := nift q h
          refine nx_bipush (v := -4) C0 dX6_stepsOf_87 (by decide) ?_
          exact nr_i C0 hr dX6_stepsOf_89 h
        · have h := niff q h
          refine nx_iload C0 3 dX6_stepsOf_15 rfl ?_
          refine nx_iload_n C0 2 dX6_stepsOf_17 rfl ?_
          obtain ⟨r12, c11, h⟩ := nbind h
          refine nx_cSi (n := 2) (As := [.int a4, .int a3]) (st := []) C0 (mX6_has l D B hB a4 a3 σ c11) gX6_stepsOf_X6_has rfl rfl rfl ndX6_has ⟨Nat.le_of_ble_eq_true rfl, Nat.le_of_ble_eq_true rfl⟩ rfl (Nat.le_of_ble_eq_true rfl) rfl dX6_stepsOf_18 ?_
          refine nx_if_eq (tgt := 27) C0 dX6_stepsOf_21 (by decide) (fun q => ?_) (fun q => ?_)
          · have h := nift q h
            refine nx_iload C0 3 dX6_stepsOf_27 rfl ?_
            refine nx_istore (i := 6) (y := a4) (lv' := [(6, .int a4), (0, .ref (na B 63)), (1, .int a1), (3, .int a3), (4, .int a4), (5, .int a5)]) C0 dX6_stepsOf_29 (by decide) rfl rfl ?_
            refine nx_iconst (v := 0) C0 dX6_stepsOf_31 (by decide) ?_
            refine nx_istore (i := 7) (y := (0 : Int32)) (lv' := [(7, .int (0 : Int32)), (6, .int a4), (0, .ref (na B 63)), (1, .int a1), (3, .int a3), (4, .int a4), (5, .int a5)]) C0 dX6_stepsOf_32 (by decide) rfl rfl ?_
            refine nx_lv (lv' := [(0, .ref (na B 63)), (1, .int a1), (3, .int a3), (4, .int a4), (5, .int a5), (6, .int a4), (7, .int (0 : Int32))]) [2, 3, 4, 5, 6, 1, 0] rfl ?_
            exact hfX6_stepsOf_b34 (fX6_stepsOf_b8 n) ih 4096 a1 a3 a4 a5 a4 (0 : Int32) h
          · have h := niff q h
            refine nx_iload C0 4 dX6_stepsOf_24 rfl ?_
            exact nr_i C0 hr dX6_stepsOf_26 h
  refine nx_lv (lv' := [(0, .ref (na B 63)), (1, .int x1), (2, .int x2), (3, .int x3)]) [0, 1, 2, 3] rfl ?_
  rw [fX6_stepsOf] at h
  refine nx_iconst (v := 1) C0 dX6_stepsOf_0 (by decide) ?_
  refine nx_iload_n C0 2 dX6_stepsOf_1 rfl ?_
  refine nx_ishl C0 dX6_stepsOf_2 ?_
  obtain ⟨v13, ev13, h⟩ := nlet h
  refine nx_istore (i := 4) (y := v13) (lv' := [(4, .int v13), (0, .ref (na B 63)), (1, .int x1), (2, .int x2), (3, .int x3)]) C0 dX6_stepsOf_3 (by decide) ev13 rfl ?_
  refine nx_iconst (v := 0) C0 dX6_stepsOf_5 (by decide) ?_
  refine nx_istore (i := 5) (y := (0 : Int32)) (lv' := [(5, .int (0 : Int32)), (4, .int v13), (0, .ref (na B 63)), (1, .int x1), (2, .int x2), (3, .int x3)]) C0 dX6_stepsOf_6 (by decide) rfl rfl ?_
  refine nx_lv (lv' := [(0, .ref (na B 63)), (1, .int x1), (3, .int x3), (4, .int v13), (5, .int (0 : Int32))]) [2, 3, 5, 1, 0] rfl ?_
  exact hfX6_stepsOf_b8 4096 x1 x3 v13 (0 : Int32) h
def rmX6_chain : Room := { frames := 6, cells := 0, slots := 0, locals := 141 }
theorem ndX6_chain : yX6_chain.cls = RX6 ∧ yX6_chain.cls ≠ "java/lang/invoke/MethodHandle" ∧ yX6_chain.cls ≠ "java/lang/invoke/VarHandle" ∧ (parseMethodDescriptor yX6_chain.desc).map (fun d => d.parameters.length) = some 4 := by decide +kernel
set_option maxRecDepth 100000 in
set_option maxHeartbeats 4000000 in
theorem mX6_chain (l : Launch) (D : va_G) (B : nBT) (hB : nInj B) (x1 : Int32) (x2 : Int32) (x3 : Int32) (x4 : Int32) (σ : nS) {r : Int32}  (h : fX6_chain x1 x2 x3 x4 σ = some r) : nMi l D B yX6_chain wsX6_chain rmX6_chain [.ref (na B 63), .int x1, .int x2, .int x3, .int x4] σ r σ := by
  refine nmet (cc := cX6_chain) (maxL := 7) (ret := (some .int)) (own := RX6) (av := [.ref (na B 63), .int x1, .int x2, .int x3, .int x4]) (nQi D B r σ) hB (by decide) rfl rfl (Nat.le_of_ble_eq_true rfl) (fun p e s m args below meth c C0 hr => ?_)
  have hh0 : ∀ w ∈ wsX60, w ∈ wsX6_chain := by decide +kernel
  have hh1 := C0.2.2.2.2.1 (Cond.fieldLink RX6 9 "NotInTheCoinModel" "s" "[I") (by decide +kernel)
  have hfX6_chain_b55 : ∀  (a4 : Int32) (a5 : Int32) (h : fX6_chain_b55  a4 a5 σ = some r), nJ p l e rmX6_chain s m args below meth c 0 0 (MQ below (nQi D B r σ s.heap.size) args s 0 0 (nA B s.heap.size)) D B 7 55 [(4, .int a4), (5, .int a5)] [] σ := by
    intro  a4 a5 h
    rw [fX6_chain_b55] at h
    refine nx_iload C0 0 dX6_chain_55 rfl ?_
    refine nx_if_ne (tgt := 65) C0 dX6_chain_57 (by decide) (fun q => ?_) (fun q => ?_)
    · have h := niff q h
      refine nx_bipush (v := -4) C0 dX6_chain_65 (by decide) ?_
      exact nr_i C0 hr dX6_chain_67 h
    · have h := nift q h
      refine nx_iload C0 1 dX6_chain_60 rfl ?_
      refine nx_goto (tgt := 67) C0 dX6_chain_62 (by decide) ?_
      exact nr_i C0 hr dX6_chain_67 h
  have hfX6_chain_b71 : ∀  (n : Nat) (a1 : Int32) (a2 : Int32) (a3 : Int32) (a5 : Int32) (a6 : Int32) (h : fX6_chain_b71  n a1 a2 a3 a5 a6 σ = some r), nJ p l e rmX6_chain s m args below meth c 0 0 (MQ below (nQi D B r σ s.heap.size) args s 0 0 (nA B s.heap.size)) D B 7 71 [(0, .ref (na B 63)), (1, .int a1), (2, .int a2), (3, .int a3), (5, .int a5), (6, .int a6)] [] σ := by
    intro  n
    induction n with
    | zero => intro a1 a2 a3 a5 a6 h; cases h
    | succ n ih =>
        intro a1 a2 a3 a5 a6 h
        rw [fX6_chain_b71] at h
        refine nx_iload C0 5 dX6_chain_71 rfl ?_
        refine nx_aload_n C0 0 dX6_chain_73 rfl ?_
        refine nx_gX6_s C0 hh0 hh1 dX6_chain_74 ?_
        refine nx_iconst (v := 0) C0 dX6_chain_77 (by decide) ?_
        obtain ⟨g1, h⟩ := nguard h
        refine nx_iald C0 nI_64 g1 dX6_chain_78 ?_
        refine nx_icmp_ge (tgt := 120) C0 dX6_chain_79 (by decide) (fun q => ?_) (fun q => ?_)
        · have h := nift q h
          refine nx_bipush (v := -4) C0 dX6_chain_120 (by decide) ?_
          exact nr_i C0 hr dX6_chain_122 h
        · have h := niff q h
          refine nx_aload_n C0 0 dX6_chain_82 rfl ?_
          refine nx_gX6_s C0 hh0 hh1 dX6_chain_83 ?_
          refine nx_iload_n C0 1 dX6_chain_86 rfl ?_
          refine nx_iload_n C0 2 dX6_chain_87 rfl ?_
          refine nx_iload C0 5 dX6_chain_88 rfl ?_
          obtain ⟨r3, c2, h⟩ := nbind h
          refine nx_cSi (n := 4) (As := [.ref (na B 64), .int a1, .int a2, .int a6]) (st := []) C0 (mX6_wouldIn l D B hB nR64 a1 a2 a6 σ c2) gX6_chain_X6_wouldIn rfl rfl rfl ndX6_wouldIn ⟨Nat.le_of_ble_eq_true rfl, Nat.le_of_ble_eq_true rfl⟩ rfl (Nat.le_of_ble_eq_true rfl) rfl dX6_chain_90 ?_
          refine nx_if_eq (tgt := 114) C0 dX6_chain_93 (by decide) (fun q => ?_) (fun q => ?_)
          · have h := nift q h
            obtain ⟨v4, ev4, h⟩ := nlet h
            refine nx_iinc (v := v4) (lv' := [(6, .int v4), (0, .ref (na B 63)), (1, .int a1), (2, .int a2), (3, .int a3), (5, .int a5)]) C0 5 dX6_chain_114 rfl ev4 (by decide) rfl ?_
            refine nx_goto (tgt := 71) C0 dX6_chain_117 (by decide) ?_
            refine nx_lv (lv' := [(0, .ref (na B 63)), (1, .int a1), (2, .int a2), (3, .int a3), (5, .int a5), (6, .int v4)]) [1, 2, 3, 4, 5, 0] rfl ?_
            exact ih a1 a2 a3 a5 v4 h
          · have h := niff q h
            refine nx_aload_n C0 0 dX6_chain_96 rfl ?_
            refine nx_iload_n C0 1 dX6_chain_97 rfl ?_
            refine nx_iload C0 5 dX6_chain_98 rfl ?_
            refine nx_iload_n C0 3 dX6_chain_100 rfl ?_
            obtain ⟨r6, c5, h⟩ := nbind h
            refine nx_cVi (ci := 6) (n := 3) (As := [.int a1, .int a6, .int a3]) (st := []) C0 (mX6_stepsOf l D B hB a1 a6 a3 σ c5) gX6_chain_X6_stepsOf rfl rfl rfl ndX6_stepsOf ⟨Nat.le_of_ble_eq_true rfl, Nat.le_of_ble_eq_true rfl⟩ (by decide) rfl rfl rfl rfl (Nat.le_of_ble_eq_true rfl) rfl dX6_chain_101 ?_
            refine nx_iload C0 4 dX6_chain_104 rfl ?_
            refine nx_iconst (v := 1) C0 dX6_chain_106 (by decide) ?_
            refine nx_isub C0 dX6_chain_107 ?_
            refine nx_icmp_ne (tgt := 114) C0 dX6_chain_108 (by decide) (fun q => ?_) (fun q => ?_)
            · have h := niff q h
              obtain ⟨v7, ev7, h⟩ := nlet h
              refine nx_iinc (v := v7) (lv' := [(6, .int v7), (0, .ref (na B 63)), (1, .int a1), (2, .int a2), (3, .int a3), (5, .int a5)]) C0 5 dX6_chain_114 rfl ev7 (by decide) rfl ?_
              refine nx_goto (tgt := 71) C0 dX6_chain_117 (by decide) ?_
              refine nx_lv (lv' := [(0, .ref (na B 63)), (1, .int a1), (2, .int a2), (3, .int a3), (5, .int a5), (6, .int v7)]) [1, 2, 3, 4, 5, 0] rfl ?_
              exact ih a1 a2 a3 a5 v7 h
            · have h := nift q h
              refine nx_iload C0 5 dX6_chain_111 rfl ?_
              exact nr_i C0 hr dX6_chain_113 h
  refine nx_lv (lv' := [(0, .ref (na B 63)), (1, .int x1), (2, .int x2), (3, .int x3), (4, .int x4)]) [0, 1, 2, 3, 4] rfl ?_
  rw [fX6_chain] at h
  refine nx_aload_n C0 0 dX6_chain_0 rfl ?_
  refine nx_iload_n C0 1 dX6_chain_1 rfl ?_
  obtain ⟨r9, c8, h⟩ := nbind h
  refine nx_cVi (ci := 6) (n := 1) (As := [.int x1]) (st := []) C0 (mX6_isPerson l D B hB x1 σ c8) gX6_chain_X6_isPerson rfl rfl rfl ndX6_isPerson ⟨Nat.le_of_ble_eq_true rfl, Nat.le_of_ble_eq_true rfl⟩ (by decide) rfl rfl rfl rfl (Nat.le_of_ble_eq_true rfl) rfl dX6_chain_2 ?_
  refine nx_if_eq (tgt := 34) C0 dX6_chain_5 (by decide) (fun q => ?_) (fun q => ?_)
  · have h := nift q h
    refine nx_iconst (v := -1) C0 dX6_chain_34 (by decide) ?_
    exact nr_i C0 hr dX6_chain_35 h
  · have h := niff q h
    refine nx_aload_n C0 0 dX6_chain_8 rfl ?_
    refine nx_iload_n C0 2 dX6_chain_9 rfl ?_
    obtain ⟨r11, c10, h⟩ := nbind h
    refine nx_cVi (ci := 6) (n := 1) (As := [.int x2]) (st := []) C0 (mX6_isGood l D B hB x2 σ c10) gX6_chain_X6_isGood rfl rfl rfl ndX6_isGood ⟨Nat.le_of_ble_eq_true rfl, Nat.le_of_ble_eq_true rfl⟩ (by decide) rfl rfl rfl rfl (Nat.le_of_ble_eq_true rfl) rfl dX6_chain_10 ?_
    refine nx_if_eq (tgt := 34) C0 dX6_chain_13 (by decide) (fun q => ?_) (fun q => ?_)
    · have h := nift q h
      refine nx_iconst (v := -1) C0 dX6_chain_34 (by decide) ?_
      exact nr_i C0 hr dX6_chain_35 h
    · have h := niff q h
      refine nx_aload_n C0 0 dX6_chain_16 rfl ?_
      refine nx_iload_n C0 3 dX6_chain_17 rfl ?_
      obtain ⟨r13, c12, h⟩ := nbind h
      refine nx_cVi (ci := 6) (n := 1) (As := [.int x3]) (st := []) C0 (mX6_isGood l D B hB x3 σ c12) gX6_chain_X6_isGood rfl rfl rfl ndX6_isGood ⟨Nat.le_of_ble_eq_true rfl, Nat.le_of_ble_eq_true rfl⟩ (by decide) rfl rfl rfl rfl (Nat.le_of_ble_eq_true rfl) rfl dX6_chain_18 ?_
      refine nx_if_eq (tgt := 34) C0 dX6_chain_21 (by decide) (fun q => ?_) (fun q => ?_)
      · have h := nift q h
        refine nx_iconst (v := -1) C0 dX6_chain_34 (by decide) ?_
        exact nr_i C0 hr dX6_chain_35 h
      · have h := niff q h
        refine nx_iload C0 4 dX6_chain_24 rfl ?_
        refine nx_iconst (v := 0) C0 dX6_chain_26 (by decide) ?_
        refine nx_iconst (v := 1) C0 dX6_chain_27 (by decide) ?_
        obtain ⟨r15, c14, h⟩ := nbind h
        refine nx_cSi (n := 3) (As := [.int x4, .int (0 : Int32), .int (1 : Int32)]) (st := []) C0 (mX6_isIn l D B hB x4 (0 : Int32) (1 : Int32) σ c14) gX6_chain_X6_isIn rfl rfl rfl ndX6_isIn ⟨Nat.le_of_ble_eq_true rfl, Nat.le_of_ble_eq_true rfl⟩ rfl (Nat.le_of_ble_eq_true rfl) rfl dX6_chain_28 ?_
        refine nx_if_ne (tgt := 36) C0 dX6_chain_31 (by decide) (fun q => ?_) (fun q => ?_)
        · have h := niff q h
          refine nx_aload_n C0 0 dX6_chain_36 rfl ?_
          refine nx_iload_n C0 1 dX6_chain_37 rfl ?_
          refine nx_iload_n C0 2 dX6_chain_38 rfl ?_
          refine nx_iload_n C0 3 dX6_chain_39 rfl ?_
          obtain ⟨r17, c16, h⟩ := nbind h
          refine nx_cVi (ci := 6) (n := 3) (As := [.int x1, .int x2, .int x3]) (st := []) C0 (mX6_stepsOf l D B hB x1 x2 x3 σ c16) gX6_chain_X6_stepsOf rfl rfl rfl ndX6_stepsOf ⟨Nat.le_of_ble_eq_true rfl, Nat.le_of_ble_eq_true rfl⟩ (by decide) rfl rfl rfl rfl (Nat.le_of_ble_eq_true rfl) rfl dX6_chain_40 ?_
          refine nx_istore (i := 5) (y := r17) (lv' := [(5, .int r17), (0, .ref (na B 63)), (1, .int x1), (2, .int x2), (3, .int x3), (4, .int x4)]) C0 dX6_chain_43 (by decide) rfl rfl ?_
          refine nx_iload C0 5 dX6_chain_45 rfl ?_
          refine nx_if_eq (tgt := 55) C0 dX6_chain_47 (by decide) (fun q => ?_) (fun q => ?_)
          · have h := nift q h
            refine nx_lv (lv' := [(4, .int x4), (5, .int r17)]) [5, 0] rfl ?_
            exact hfX6_chain_b55 x4 r17 h
          · have h := niff q h
            refine nx_iload C0 0 dX6_chain_50 rfl ?_
            refine nx_if_gt (tgt := 68) C0 dX6_chain_52 (by decide) (fun q => ?_) (fun q => ?_)
            · have h := nift q h
              refine nx_iconst (v := 0) C0 dX6_chain_68 (by decide) ?_
              refine nx_istore (i := 6) (y := (0 : Int32)) (lv' := [(6, .int (0 : Int32)), (5, .int r17), (0, .ref (na B 63)), (1, .int x1), (2, .int x2), (3, .int x3), (4, .int x4)]) C0 dX6_chain_69 (by decide) rfl rfl ?_
              refine nx_lv (lv' := [(0, .ref (na B 63)), (1, .int x1), (2, .int x2), (3, .int x3), (5, .int r17), (6, .int (0 : Int32))]) [2, 3, 4, 5, 1, 0] rfl ?_
              exact hfX6_chain_b71 4096 x1 x2 x3 r17 (0 : Int32) h
            · have h := niff q h
              refine nx_lv (lv' := [(4, .int x4), (5, .int r17)]) [5, 0] rfl ?_
              exact hfX6_chain_b55 x4 r17 h
        · have h := nift q h
          refine nx_iconst (v := -1) C0 dX6_chain_34 (by decide) ?_
          exact nr_i C0 hr dX6_chain_35 h
def rmX6_climb : Room := { frames := 6, cells := 0, slots := 0, locals := 141 }
theorem ndX6_climb : yX6_climb.cls = RX6 ∧ yX6_climb.cls ≠ "java/lang/invoke/MethodHandle" ∧ yX6_climb.cls ≠ "java/lang/invoke/VarHandle" ∧ (parseMethodDescriptor yX6_climb.desc).map (fun d => d.parameters.length) = some 2 := by decide +kernel
set_option maxRecDepth 100000 in
set_option maxHeartbeats 4000000 in
theorem mX6_climb (l : Launch) (D : va_G) (B : nBT) (hB : nInj B) (x1 : Int32) (x2 : Int32) (σ : nS) {r : Int32}  (h : fX6_climb x1 x2 σ = some r) : nMi l D B yX6_climb wsX6_climb rmX6_climb [.ref (na B 63), .int x1, .int x2] σ r σ := by
  refine nmet (cc := cX6_climb) (maxL := 5) (ret := (some .int)) (own := RX6) (av := [.ref (na B 63), .int x1, .int x2]) (nQi D B r σ) hB (by decide) rfl rfl (Nat.le_of_ble_eq_true rfl) (fun p e s m args below meth c C0 hr => ?_)
  have hh0 : ∀ w ∈ wsX60, w ∈ wsX6_climb := by decide +kernel
  have hh1 := C0.2.2.2.2.1 (Cond.fieldLink RX6 9 "NotInTheCoinModel" "s" "[I") (by decide +kernel)
  have hfX6_climb_b23 : ∀  (n : Nat) (a1 : Int32) (a2 : Int32) (a3 : Int32) (a4 : Int32) (h : fX6_climb_b23  n a1 a2 a3 a4 σ = some r), nJ p l e rmX6_climb s m args below meth c 0 0 (MQ below (nQi D B r σ s.heap.size) args s 0 0 (nA B s.heap.size)) D B 5 23 [(0, .ref (na B 63)), (1, .int a1), (2, .int a2), (3, .int a3), (4, .int a4)] [] σ := by
    intro  n
    induction n with
    | zero => intro a1 a2 a3 a4 h; cases h
    | succ n ih =>
        intro a1 a2 a3 a4 h
        rw [fX6_climb_b23] at h
        refine nx_iload C0 4 dX6_climb_23 rfl ?_
        refine nx_aload_n C0 0 dX6_climb_25 rfl ?_
        refine nx_gX6_s C0 hh0 hh1 dX6_climb_26 ?_
        refine nx_iconst (v := 0) C0 dX6_climb_29 (by decide) ?_
        obtain ⟨g1, h⟩ := nguard h
        refine nx_iald C0 nI_64 g1 dX6_climb_30 ?_
        refine nx_icmp_ge (tgt := 76) C0 dX6_climb_31 (by decide) (fun q => ?_) (fun q => ?_)
        · have h := nift q h
          refine nx_iload_n C0 3 dX6_climb_76 rfl ?_
          exact nr_i C0 hr dX6_climb_77 h
        · have h := niff q h
          refine nx_aload_n C0 0 dX6_climb_34 rfl ?_
          refine nx_iload_n C0 1 dX6_climb_35 rfl ?_
          refine nx_iload_n C0 2 dX6_climb_36 rfl ?_
          refine nx_iload C0 4 dX6_climb_37 rfl ?_
          obtain ⟨r3, c2, h⟩ := nbind h
          refine nx_cVi (ci := 6) (n := 3) (As := [.int a1, .int a2, .int a4]) (st := []) C0 (mX6_stepsOf l D B hB a1 a2 a4 σ c2) gX6_climb_X6_stepsOf rfl rfl rfl ndX6_stepsOf ⟨Nat.le_of_ble_eq_true rfl, Nat.le_of_ble_eq_true rfl⟩ (by decide) rfl rfl rfl rfl (Nat.le_of_ble_eq_true rfl) rfl dX6_climb_39 ?_
          refine nx_if_lt (tgt := 70) C0 dX6_climb_42 (by decide) (fun q => ?_) (fun q => ?_)
          · have h := nift q h
            obtain ⟨v4, ev4, h⟩ := nlet h
            refine nx_iinc (v := v4) (lv' := [(4, .int v4), (0, .ref (na B 63)), (1, .int a1), (2, .int a2), (3, .int a3)]) C0 4 dX6_climb_70 rfl ev4 (by decide) rfl ?_
            refine nx_goto (tgt := 23) C0 dX6_climb_73 (by decide) ?_
            refine nx_lv (lv' := [(0, .ref (na B 63)), (1, .int a1), (2, .int a2), (3, .int a3), (4, .int v4)]) [1, 2, 3, 4, 0] rfl ?_
            exact ih a1 a2 a3 v4 h
          · have h := niff q h
            refine nx_iload_n C0 3 dX6_climb_45 rfl ?_
            refine nx_aload_n C0 0 dX6_climb_46 rfl ?_
            refine nx_gX6_s C0 hh0 hh1 dX6_climb_47 ?_
            refine nx_iload_n C0 1 dX6_climb_50 rfl ?_
            refine nx_iload C0 4 dX6_climb_51 rfl ?_
            obtain ⟨r6, c5, h⟩ := nbind h
            refine nx_cSi (n := 3) (As := [.ref (na B 64), .int a1, .int a4]) (st := [.int a3]) C0 (mX6_worthIn l D B hB nR64 a1 a4 σ c5) gX6_climb_X6_worthIn rfl rfl rfl ndX6_worthIn ⟨Nat.le_of_ble_eq_true rfl, Nat.le_of_ble_eq_true rfl⟩ rfl (Nat.le_of_ble_eq_true rfl) rfl dX6_climb_53 ?_
            refine nx_aload_n C0 0 dX6_climb_56 rfl ?_
            refine nx_gX6_s C0 hh0 hh1 dX6_climb_57 ?_
            refine nx_iload_n C0 1 dX6_climb_60 rfl ?_
            refine nx_iload_n C0 2 dX6_climb_61 rfl ?_
            obtain ⟨r8, c7, h⟩ := nbind h
            refine nx_cSi (n := 3) (As := [.ref (na B 64), .int a1, .int a2]) (st := [.int r6, .int a3]) C0 (mX6_worthIn l D B hB nR64 a1 a2 σ c7) gX6_climb_X6_worthIn rfl rfl rfl ndX6_worthIn ⟨Nat.le_of_ble_eq_true rfl, Nat.le_of_ble_eq_true rfl⟩ rfl (Nat.le_of_ble_eq_true rfl) rfl dX6_climb_62 ?_
            refine nx_isub C0 dX6_climb_65 ?_
            obtain ⟨r10, c9, h⟩ := nbind h
            refine nx_cSi (n := 2) (As := [.int a3, .int (r6 - r8)]) (st := []) C0 (mX6_most l D B hB a3 (r6 - r8) σ c9) gX6_climb_X6_most rfl rfl rfl ndX6_most ⟨Nat.le_of_ble_eq_true rfl, Nat.le_of_ble_eq_true rfl⟩ rfl (Nat.le_of_ble_eq_true rfl) rfl dX6_climb_66 ?_
            refine nx_istore_n (i := 3) (y := r10) (lv' := [(3, .int r10), (0, .ref (na B 63)), (1, .int a1), (2, .int a2), (4, .int a4)]) C0 dX6_climb_69 rfl (by decide) rfl rfl ?_
            obtain ⟨v11, ev11, h⟩ := nlet h
            refine nx_iinc (v := v11) (lv' := [(4, .int v11), (3, .int r10), (0, .ref (na B 63)), (1, .int a1), (2, .int a2)]) C0 4 dX6_climb_70 rfl ev11 (by decide) rfl ?_
            refine nx_goto (tgt := 23) C0 dX6_climb_73 (by decide) ?_
            refine nx_lv (lv' := [(0, .ref (na B 63)), (1, .int a1), (2, .int a2), (3, .int r10), (4, .int v11)]) [2, 3, 4, 1, 0] rfl ?_
            exact ih a1 a2 r10 v11 h
  refine nx_lv (lv' := [(0, .ref (na B 63)), (1, .int x1), (2, .int x2)]) [0, 1, 2] rfl ?_
  rw [fX6_climb] at h
  refine nx_aload_n C0 0 dX6_climb_0 rfl ?_
  refine nx_iload_n C0 1 dX6_climb_1 rfl ?_
  obtain ⟨r13, c12, h⟩ := nbind h
  refine nx_cVi (ci := 6) (n := 1) (As := [.int x1]) (st := []) C0 (mX6_isPerson l D B hB x1 σ c12) gX6_climb_X6_isPerson rfl rfl rfl ndX6_isPerson ⟨Nat.le_of_ble_eq_true rfl, Nat.le_of_ble_eq_true rfl⟩ (by decide) rfl rfl rfl rfl (Nat.le_of_ble_eq_true rfl) rfl dX6_climb_2 ?_
  refine nx_if_eq (tgt := 16) C0 dX6_climb_5 (by decide) (fun q => ?_) (fun q => ?_)
  · have h := nift q h
    refine nx_iconst (v := -1) C0 dX6_climb_16 (by decide) ?_
    exact nr_i C0 hr dX6_climb_17 h
  · have h := niff q h
    refine nx_aload_n C0 0 dX6_climb_8 rfl ?_
    refine nx_iload_n C0 2 dX6_climb_9 rfl ?_
    obtain ⟨r15, c14, h⟩ := nbind h
    refine nx_cVi (ci := 6) (n := 1) (As := [.int x2]) (st := []) C0 (mX6_isGood l D B hB x2 σ c14) gX6_climb_X6_isGood rfl rfl rfl ndX6_isGood ⟨Nat.le_of_ble_eq_true rfl, Nat.le_of_ble_eq_true rfl⟩ (by decide) rfl rfl rfl rfl (Nat.le_of_ble_eq_true rfl) rfl dX6_climb_10 ?_
    refine nx_if_ne (tgt := 18) C0 dX6_climb_13 (by decide) (fun q => ?_) (fun q => ?_)
    · have h := niff q h
      refine nx_iconst (v := 0) C0 dX6_climb_18 (by decide) ?_
      refine nx_istore_n (i := 3) (y := (0 : Int32)) (lv' := [(3, .int (0 : Int32)), (0, .ref (na B 63)), (1, .int x1), (2, .int x2)]) C0 dX6_climb_19 rfl (by decide) rfl rfl ?_
      refine nx_iconst (v := 0) C0 dX6_climb_20 (by decide) ?_
      refine nx_istore (i := 4) (y := (0 : Int32)) (lv' := [(4, .int (0 : Int32)), (3, .int (0 : Int32)), (0, .ref (na B 63)), (1, .int x1), (2, .int x2)]) C0 dX6_climb_21 (by decide) rfl rfl ?_
      refine nx_lv (lv' := [(0, .ref (na B 63)), (1, .int x1), (2, .int x2), (3, .int (0 : Int32)), (4, .int (0 : Int32))]) [2, 3, 4, 1, 0] rfl ?_
      exact hfX6_climb_b23 4096 x1 x2 (0 : Int32) (0 : Int32) h
    · have h := nift q h
      refine nx_iconst (v := -1) C0 dX6_climb_16 (by decide) ?_
      exact nr_i C0 hr dX6_climb_17 h
def rmX6_clears (n : Nat) : Room := { frames := n + 5, cells := 0, slots := 0, locals := n * 24 + 112 }
theorem ndX6_clears : yX6_clears.cls = RX6 ∧ yX6_clears.cls ≠ "java/lang/invoke/MethodHandle" ∧ yX6_clears.cls ≠ "java/lang/invoke/VarHandle" ∧ (parseMethodDescriptor yX6_clears.desc).map (fun d => d.parameters.length) = some 3 := by decide +kernel
set_option maxRecDepth 100000 in
set_option maxHeartbeats 4000000 in
theorem mX6_clears (l : Launch) (D : va_G) (B : nBT) (hB : nInj B) : ∀ (d : Nat) (x1 : Int32) (x2 : Int32) (x3 : Int32) (σ : nS)  {σ1 : nS} (h : fX6_clears d x1 x2 x3 σ = some ((), σ1)), nMv l D B yX6_clears wsX6_clears (rmX6_clears d) [.ref (na B 63), .int x1, .int x2, .int x3] σ σ1 := by
  intro d
  induction d with
  | zero => intro x1 x2 x3 σ σ1 h; cases h
  | succ d hrec0 =>
  intro x1 x2 x3 σ σ1 h
  have h : fX6_clears_e (fX6_clears d) x1 x2 x3 σ = some ((), σ1) := h
  have hrec : ∀ (x1 : Int32) (x2 : Int32) (x3 : Int32) (σ : nS)  {σ1 : nS} (h : fX6_clears d x1 x2 x3 σ = some ((), σ1)), nMv l D B yX6_clears wsX6_clears (rmX6_clears d) [.ref (na B 63), .int x1, .int x2, .int x3] σ σ1 := fun x1 x2 x3 σ {σ1} h => hrec0 x1 x2 x3 σ h
  generalize fX6_clears d = rec at h hrec
  clear hrec0
  refine nmet (cc := cX6_clears) (maxL := 5) (ret := none) (own := RX6) (av := [.ref (na B 63), .int x1, .int x2, .int x3]) (nQv D B σ1) hB (by decide) rfl rfl (Nat.le_of_ble_eq_true rfl) (fun p e s m args below meth c C0 hr => ?_)
  have hh0 : ∀ w ∈ wsX60, w ∈ wsX6_clears := by decide +kernel
  have hh1 := C0.2.2.2.2.1 (Cond.fieldLink RX6 9 "NotInTheCoinModel" "s" "[I") (by decide +kernel)
  have hh2 := C0.2.2.2.2.1 (Cond.fieldLink RX6 25 "NotInTheCoinModel" "given" "[I") (by decide +kernel)
  have hh3 := C0.2.2.2.2.1 (Cond.fieldLink RX6 28 "NotInTheCoinModel" "bestGiven" "[I") (by decide +kernel)
  have hh4 := C0.2.2.2.2.1 (Cond.fieldLink RX6 184 "NotInTheCoinModel" "bestMany" "I") (by decide +kernel)
  have hfX6_clears_b58 : ∀  (n : Nat) (a1 : Int32) (a2 : Int32) (a3 : Int32) (a4 : Int32) (σ : nS) (h : fX6_clears_b58 rec n a1 a2 a3 a4 σ = some ((), σ1)), nJ p l e (rmX6_clears (d + 1)) s m args below meth c 0 0 (MQ below (nQv D B σ1 s.heap.size) args s 0 0 (nA B s.heap.size)) D B 5 58 [(0, .ref (na B 63)), (1, .int a1), (2, .int a2), (3, .int a3), (4, .int a4)] [] σ := by
    intro  n
    induction n with
    | zero => intro a1 a2 a3 a4 σ h; cases h
    | succ n ih =>
        intro a1 a2 a3 a4 σ h
        rw [fX6_clears_b58] at h
        refine nx_iload C0 4 dX6_clears_58 rfl ?_
        refine nx_aload_n C0 0 dX6_clears_60 rfl ?_
        refine nx_gX6_s C0 hh0 hh1 dX6_clears_61 ?_
        refine nx_iconst (v := 0) C0 dX6_clears_64 (by decide) ?_
        obtain ⟨g1, h⟩ := nguard h
        refine nx_iald C0 nI_64 g1 dX6_clears_65 ?_
        refine nx_icmp_ge (tgt := 124) C0 dX6_clears_66 (by decide) (fun q => ?_) (fun q => ?_)
        · have h := nift q h
          refine nx_aload_n C0 0 dX6_clears_124 rfl ?_
          refine nx_gX6_given C0 hh0 hh2 dX6_clears_125 ?_
          refine nx_iload_n C0 1 dX6_clears_128 rfl ?_
          refine nx_bipush (v := -4) C0 dX6_clears_129 (by decide) ?_
          obtain ⟨g2, h⟩ := nguard h
          obtain ⟨t3, et3, h⟩ := nlet h
          refine nx_iast C0 nI_69 g2 dX6_clears_131 et3 ?_
          refine nx_aload_n C0 0 dX6_clears_132 rfl ?_
          refine nx_iload_n C0 1 dX6_clears_133 rfl ?_
          refine nx_iconst (v := 1) C0 dX6_clears_134 (by decide) ?_
          refine nx_iadd C0 dX6_clears_135 ?_
          refine nx_iload_n C0 2 dX6_clears_136 rfl ?_
          refine nx_iload_n C0 3 dX6_clears_137 rfl ?_
          obtain ⟨r5, t6, c4, h⟩ := nbind2 h
          refine nx_cVv (ci := 6) (n := 3) (As := [.int (a1 + (1 : Int32)), .int a2, .int a3]) (st := []) C0 (hrec (a1 + (1 : Int32)) a2 a3 t3 c4) gX6_clears_X6_clears rfl rfl rfl ndX6_clears ⟨by simp only [rmX6_clears]; omega, by simp only [rmX6_clears]; omega⟩ (by decide) rfl rfl rfl rfl (Nat.le_of_ble_eq_true rfl) rfl dX6_clears_138 ?_
          exact nr_v2 C0 hr dX6_clears_141 h
        · have h := niff q h
          refine nx_iload_n C0 2 dX6_clears_69 rfl ?_
          refine nx_iload C0 4 dX6_clears_70 rfl ?_
          obtain ⟨r8, c7, h⟩ := nbind h
          refine nx_cSi (n := 2) (As := [.int a2, .int a4]) (st := []) C0 (mX6_has l D B hB a2 a4 σ c7) gX6_clears_X6_has rfl rfl rfl ndX6_has ⟨by show _ ≤ (rmX6_clears _).frames; simp only [rmX6_clears, rmX6_has]; omega, by show _ ≤ (rmX6_clears _).locals; simp only [rmX6_clears, rmX6_has]; omega⟩ rfl (Nat.le_of_ble_eq_true rfl) rfl dX6_clears_72 ?_
          refine nx_if_ne (tgt := 118) C0 dX6_clears_75 (by decide) (fun q => ?_) (fun q => ?_)
          · have h := niff q h
            obtain ⟨v9, ev9, h⟩ := nlet h
            refine nx_iinc (v := v9) (lv' := [(4, .int v9), (0, .ref (na B 63)), (1, .int a1), (2, .int a2), (3, .int a3)]) C0 4 dX6_clears_118 rfl ev9 (by decide) rfl ?_
            refine nx_goto (tgt := 58) C0 dX6_clears_121 (by decide) ?_
            refine nx_lv (lv' := [(0, .ref (na B 63)), (1, .int a1), (2, .int a2), (3, .int a3), (4, .int v9)]) [1, 2, 3, 4, 0] rfl ?_
            exact ih a1 a2 a3 v9 σ h
          · have h := nift q h
            refine nx_aload_n C0 0 dX6_clears_78 rfl ?_
            refine nx_gX6_s C0 hh0 hh1 dX6_clears_79 ?_
            refine nx_iload_n C0 1 dX6_clears_82 rfl ?_
            refine nx_iload C0 4 dX6_clears_83 rfl ?_
            obtain ⟨r11, c10, h⟩ := nbind h
            refine nx_cSi (n := 3) (As := [.ref (na B 64), .int a1, .int a4]) (st := []) C0 (mX6_canPayIn l D B hB nR64 a1 a4 σ c10) gX6_clears_X6_canPayIn rfl rfl rfl ndX6_canPayIn ⟨by show _ ≤ (rmX6_clears _).frames; simp only [rmX6_clears, rmX6_canPayIn]; omega, by show _ ≤ (rmX6_clears _).locals; simp only [rmX6_clears, rmX6_canPayIn]; omega⟩ rfl (Nat.le_of_ble_eq_true rfl) rfl dX6_clears_85 ?_
            refine nx_if_ne (tgt := 94) C0 dX6_clears_88 (by decide) (fun q => ?_) (fun q => ?_)
            · have h := niff q h
              refine nx_aload_n C0 0 dX6_clears_94 rfl ?_
              refine nx_gX6_given C0 hh0 hh2 dX6_clears_95 ?_
              refine nx_iload_n C0 1 dX6_clears_98 rfl ?_
              refine nx_iload C0 4 dX6_clears_99 rfl ?_
              obtain ⟨g12, h⟩ := nguard h
              obtain ⟨t13, et13, h⟩ := nlet h
              refine nx_iast C0 nI_69 g12 dX6_clears_101 et13 ?_
              refine nx_aload_n C0 0 dX6_clears_102 rfl ?_
              refine nx_iload_n C0 1 dX6_clears_103 rfl ?_
              refine nx_iconst (v := 1) C0 dX6_clears_104 (by decide) ?_
              refine nx_iadd C0 dX6_clears_105 ?_
              refine nx_iload_n C0 2 dX6_clears_106 rfl ?_
              refine nx_iconst (v := 1) C0 dX6_clears_107 (by decide) ?_
              refine nx_iload C0 4 dX6_clears_108 rfl ?_
              refine nx_ishl C0 dX6_clears_110 ?_
              refine nx_ior C0 dX6_clears_111 ?_
              refine nx_iload_n C0 3 dX6_clears_112 rfl ?_
              refine nx_iconst (v := 1) C0 dX6_clears_113 (by decide) ?_
              refine nx_iadd C0 dX6_clears_114 ?_
              obtain ⟨r15, t16, c14, h⟩ := nbind2 h
              refine nx_cVv (ci := 6) (n := 3) (As := [.int (a1 + (1 : Int32)), .int (a2 ||| ((1 : Int32) <<< (a4 &&& 31))), .int (a3 + (1 : Int32))]) (st := []) C0 (hrec (a1 + (1 : Int32)) (a2 ||| ((1 : Int32) <<< (a4 &&& 31))) (a3 + (1 : Int32)) t13 c14) gX6_clears_X6_clears rfl rfl rfl ndX6_clears ⟨by simp only [rmX6_clears]; omega, by simp only [rmX6_clears]; omega⟩ (by decide) rfl rfl rfl rfl (Nat.le_of_ble_eq_true rfl) rfl dX6_clears_115 ?_
              obtain ⟨v17, ev17, h⟩ := nlet h
              refine nx_iinc (v := v17) (lv' := [(4, .int v17), (0, .ref (na B 63)), (1, .int a1), (2, .int a2), (3, .int a3)]) C0 4 dX6_clears_118 rfl ev17 (by decide) rfl ?_
              refine nx_goto (tgt := 58) C0 dX6_clears_121 (by decide) ?_
              refine nx_lv (lv' := [(0, .ref (na B 63)), (1, .int a1), (2, .int a2), (3, .int a3), (4, .int v17)]) [1, 2, 3, 4, 0] rfl ?_
              exact ih a1 a2 a3 v17 t16 h
            · have h := nift q h
              refine nx_goto (tgt := 118) C0 dX6_clears_91 (by decide) ?_
              obtain ⟨v18, ev18, h⟩ := nlet h
              refine nx_iinc (v := v18) (lv' := [(4, .int v18), (0, .ref (na B 63)), (1, .int a1), (2, .int a2), (3, .int a3)]) C0 4 dX6_clears_118 rfl ev18 (by decide) rfl ?_
              refine nx_goto (tgt := 58) C0 dX6_clears_121 (by decide) ?_
              refine nx_lv (lv' := [(0, .ref (na B 63)), (1, .int a1), (2, .int a2), (3, .int a3), (4, .int v18)]) [1, 2, 3, 4, 0] rfl ?_
              exact ih a1 a2 a3 v18 σ h
  have hfX6_clears_b27 : ∀  (n : Nat) (a4 : Int32) (σ : nS) (h : fX6_clears_b27 rec n a4 σ = some ((), σ1)), nJ p l e (rmX6_clears (d + 1)) s m args below meth c 0 0 (MQ below (nQv D B σ1 s.heap.size) args s 0 0 (nA B s.heap.size)) D B 5 27 [(0, .ref (na B 63)), (4, .int a4)] [] σ := by
    intro  n
    induction n with
    | zero => intro a4 σ h; cases h
    | succ n ih =>
        intro a4 σ h
        rw [fX6_clears_b27] at h
        refine nx_iload C0 1 dX6_clears_27 rfl ?_
        refine nx_bipush (v := 8) C0 dX6_clears_29 (by decide) ?_
        refine nx_icmp_ge (tgt := 54) C0 dX6_clears_31 (by decide) (fun q => ?_) (fun q => ?_)
        · have h := nift q h
          exact nr_v2 C0 hr dX6_clears_54 h
        · have h := niff q h
          refine nx_aload_n C0 0 dX6_clears_34 rfl ?_
          refine nx_gX6_bestGiven C0 hh0 hh3 dX6_clears_35 ?_
          refine nx_iload C0 1 dX6_clears_38 rfl ?_
          refine nx_aload_n C0 0 dX6_clears_40 rfl ?_
          refine nx_gX6_given C0 hh0 hh2 dX6_clears_41 ?_
          refine nx_iload C0 1 dX6_clears_44 rfl ?_
          obtain ⟨g19, h⟩ := nguard h
          refine nx_iald C0 nI_69 g19 dX6_clears_46 ?_
          obtain ⟨g20, h⟩ := nguard h
          obtain ⟨t21, et21, h⟩ := nlet h
          refine nx_iast C0 nI_70 g20 dX6_clears_47 et21 ?_
          obtain ⟨v22, ev22, h⟩ := nlet h
          refine nx_iinc (v := v22) (lv' := [(4, .int v22), (0, .ref (na B 63))]) C0 1 dX6_clears_48 rfl ev22 (by decide) rfl ?_
          refine nx_goto (tgt := 27) C0 dX6_clears_51 (by decide) ?_
          refine nx_lv (lv' := [(0, .ref (na B 63)), (4, .int v22)]) [1, 0] rfl ?_
          exact ih v22 t21 h
  refine nx_lv (lv' := [(0, .ref (na B 63)), (1, .int x1), (2, .int x2), (3, .int x3)]) [0, 1, 2, 3] rfl ?_
  rw [fX6_clears_e] at h
  refine nx_iload_n C0 1 dX6_clears_0 rfl ?_
  refine nx_aload_n C0 0 dX6_clears_1 rfl ?_
  refine nx_gX6_s C0 hh0 hh1 dX6_clears_2 ?_
  refine nx_iconst (v := 2) C0 dX6_clears_5 (by decide) ?_
  obtain ⟨g23, h⟩ := nguard h
  refine nx_iald C0 nI_64 g23 dX6_clears_6 ?_
  refine nx_icmp_ne (tgt := 55) C0 dX6_clears_7 (by decide) (fun q => ?_) (fun q => ?_)
  · have h := niff q h
    refine nx_iconst (v := 0) C0 dX6_clears_55 (by decide) ?_
    refine nx_istore (i := 4) (y := (0 : Int32)) (lv' := [(4, .int (0 : Int32)), (0, .ref (na B 63)), (1, .int x1), (2, .int x2), (3, .int x3)]) C0 dX6_clears_56 (by decide) rfl rfl ?_
    refine nx_lv (lv' := [(0, .ref (na B 63)), (1, .int x1), (2, .int x2), (3, .int x3), (4, .int (0 : Int32))]) [1, 2, 3, 4, 0] rfl ?_
    exact hfX6_clears_b58 4096 x1 x2 x3 (0 : Int32) σ h
  · have h := nift q h
    refine nx_iload_n C0 3 dX6_clears_10 rfl ?_
    refine nx_aload_n C0 0 dX6_clears_11 rfl ?_
    refine nx_gX6_bestMany C0 hh0 hh4 dX6_clears_12 ?_
    refine nx_icmp_gt (tgt := 19) C0 dX6_clears_15 (by decide) (fun q => ?_) (fun q => ?_)
    · have h := nift q h
      refine nx_aload_n C0 0 dX6_clears_19 rfl ?_
      refine nx_iload_n C0 3 dX6_clears_20 rfl ?_
      obtain ⟨t24, et24, h⟩ := nlet h
      refine nx_pX6_bestMany C0 hh0 hh4 dX6_clears_21 et24 ?_
      refine nx_iconst (v := 0) C0 dX6_clears_24 (by decide) ?_
      refine nx_istore (i := 4) (y := (0 : Int32)) (lv' := [(4, .int (0 : Int32)), (0, .ref (na B 63)), (1, .int x1), (2, .int x2), (3, .int x3)]) C0 dX6_clears_25 (by decide) rfl rfl ?_
      refine nx_lv (lv' := [(0, .ref (na B 63)), (4, .int (0 : Int32))]) [1, 0] rfl ?_
      exact hfX6_clears_b27 4096 (0 : Int32) t24 h
    · have h := niff q h
      exact nr_v2 C0 hr dX6_clears_18 h
def rmX6_clearing : Room := { frames := 26, cells := 0, slots := 0, locals := 616 }
theorem ndX6_clearing : yX6_clearing.cls = RX6 ∧ yX6_clearing.cls ≠ "java/lang/invoke/MethodHandle" ∧ yX6_clearing.cls ≠ "java/lang/invoke/VarHandle" ∧ (parseMethodDescriptor yX6_clearing.desc).map (fun d => d.parameters.length) = some 1 := by decide +kernel
set_option maxRecDepth 100000 in
set_option maxHeartbeats 4000000 in
theorem mX6_clearing (l : Launch) (D : va_G) (B : nBT) (hB : nInj B) (x1 : Int32) (σ : nS) {r : Int32} {σ1 : nS} (h : fX6_clearing x1 σ = some (r, σ1)) : nMi l D B yX6_clearing wsX6_clearing rmX6_clearing [.ref (na B 63), .int x1] σ r σ1 := by
  refine nmet (cc := cX6_clearing) (maxL := 2) (ret := (some .int)) (own := RX6) (av := [.ref (na B 63), .int x1]) (nQi D B r σ1) hB (by decide) rfl rfl (Nat.le_of_ble_eq_true rfl) (fun p e s m args below meth c C0 hr => ?_)
  have hh0 : ∀ w ∈ wsX60, w ∈ wsX6_clearing := by decide +kernel
  have hh1 := C0.2.2.2.2.1 (Cond.fieldLink RX6 184 "NotInTheCoinModel" "bestMany" "I") (by decide +kernel)
  have hh2 := C0.2.2.2.2.1 (Cond.fieldLink RX6 28 "NotInTheCoinModel" "bestGiven" "[I") (by decide +kernel)
  have hfX6_clearing_b15 : ∀  (a1 : Int32) (σ : nS) (h : fX6_clearing_b15  a1 σ = some (r, σ1)), nJ p l e rmX6_clearing s m args below meth c 0 0 (MQ below (nQi D B r σ1 s.heap.size) args s 0 0 (nA B s.heap.size)) D B 2 15 [(0, .ref (na B 63)), (1, .int a1)] [] σ := by
    intro  a1 σ h
    rw [fX6_clearing_b15] at h
    refine nx_aload_n C0 0 dX6_clearing_15 rfl ?_
    refine nx_iconst (v := -1) C0 dX6_clearing_16 (by decide) ?_
    obtain ⟨t1, et1, h⟩ := nlet h
    refine nx_pX6_bestMany C0 hh0 hh1 dX6_clearing_17 et1 ?_
    refine nx_aload_n C0 0 dX6_clearing_20 rfl ?_
    refine nx_iconst (v := 0) C0 dX6_clearing_21 (by decide) ?_
    refine nx_iconst (v := 0) C0 dX6_clearing_22 (by decide) ?_
    refine nx_iconst (v := 0) C0 dX6_clearing_23 (by decide) ?_
    obtain ⟨r3, t4, c2, h⟩ := nbind2 h
    refine nx_cVv (ci := 6) (n := 3) (As := [.int (0 : Int32), .int (0 : Int32), .int (0 : Int32)]) (st := []) C0 (mX6_clears l D B hB 20 (0 : Int32) (0 : Int32) (0 : Int32) t1 c2) gX6_clearing_X6_clears rfl rfl rfl ndX6_clears ⟨Nat.le_of_ble_eq_true rfl, Nat.le_of_ble_eq_true rfl⟩ (by decide) rfl rfl rfl rfl (Nat.le_of_ble_eq_true rfl) rfl dX6_clearing_24 ?_
    refine nx_iload_n C0 1 dX6_clearing_27 rfl ?_
    refine nx_if_ge (tgt := 38) C0 dX6_clearing_28 (by decide) (fun q => ?_) (fun q => ?_)
    · have h := nift q h
      refine nx_aload_n C0 0 dX6_clearing_38 rfl ?_
      refine nx_gX6_bestGiven C0 hh0 hh2 dX6_clearing_39 ?_
      refine nx_iload_n C0 1 dX6_clearing_42 rfl ?_
      obtain ⟨g5, h⟩ := nguard h
      refine nx_iald C0 nI_70 g5 dX6_clearing_43 ?_
      exact nr_i2 C0 hr dX6_clearing_44 h
    · have h := niff q h
      refine nx_aload_n C0 0 dX6_clearing_31 rfl ?_
      refine nx_gX6_bestMany C0 hh0 hh1 dX6_clearing_32 ?_
      refine nx_goto (tgt := 44) C0 dX6_clearing_35 (by decide) ?_
      exact nr_i2 C0 hr dX6_clearing_44 h
  refine nx_lv (lv' := [(0, .ref (na B 63)), (1, .int x1)]) [0, 1] rfl ?_
  rw [fX6_clearing] at h
  refine nx_iload_n C0 1 dX6_clearing_0 rfl ?_
  refine nx_iconst (v := -1) C0 dX6_clearing_1 (by decide) ?_
  refine nx_icmp_eq (tgt := 15) C0 dX6_clearing_2 (by decide) (fun q => ?_) (fun q => ?_)
  · have h := nift q h
    exact hfX6_clearing_b15 x1 σ h
  · have h := niff q h
    refine nx_aload_n C0 0 dX6_clearing_5 rfl ?_
    refine nx_iload_n C0 1 dX6_clearing_6 rfl ?_
    obtain ⟨r7, c6, h⟩ := nbind h
    refine nx_cVi (ci := 6) (n := 1) (As := [.int x1]) (st := []) C0 (mX6_isLoan l D B hB x1 σ c6) gX6_clearing_X6_isLoan rfl rfl rfl ndX6_isLoan ⟨Nat.le_of_ble_eq_true rfl, Nat.le_of_ble_eq_true rfl⟩ (by decide) rfl rfl rfl rfl (Nat.le_of_ble_eq_true rfl) rfl dX6_clearing_7 ?_
    refine nx_if_ne (tgt := 15) C0 dX6_clearing_10 (by decide) (fun q => ?_) (fun q => ?_)
    · have h := niff q h
      exact hfX6_clearing_b15 x1 σ h
    · have h := nift q h
      refine nx_iconst (v := -1) C0 dX6_clearing_13 (by decide) ?_
      exact nr_i2 C0 hr dX6_clearing_14 h
def rmX6_quarrelIn : Room := { frames := 3, cells := 0, slots := 0, locals := 67 }
theorem ndX6_quarrelIn : yX6_quarrelIn.cls ≠ "java/lang/invoke/MethodHandle" ∧ yX6_quarrelIn.cls ≠ "java/lang/invoke/VarHandle" ∧ (parseMethodDescriptor yX6_quarrelIn.desc).map (fun d => d.parameters.length) = some 3 := by decide +kernel
set_option maxRecDepth 100000 in
set_option maxHeartbeats 4000000 in
theorem mX6_quarrelIn (l : Launch) (D : va_G) (B : nBT) (hB : nInj B) {k0 : Nat} (hk0 : nR k0) (x1 : Int32) (x2 : Int32) (σ : nS) {r : Int32}  (h : fX6_quarrelIn k0 x1 x2 σ = some r) : nMi l D B yX6_quarrelIn wsX6_quarrelIn rmX6_quarrelIn [.ref (na B k0), .int x1, .int x2] σ r σ := by
  refine nmet (cc := cX6_quarrelIn) (maxL := 6) (ret := (some .int)) (own := RX6) (av := [.ref (na B k0), .int x1, .int x2]) (nQi D B r σ) hB (by decide) rfl rfl (Nat.le_of_ble_eq_true rfl) (fun p e s m args below meth c C0 hr => ?_)
  have hfX6_quarrelIn_b39 : ∀ (s8 : Nat → Int32 → Int32 → Int32 → Int32 → Int32 → nS → Option Int32) (hs8 : ∀ (k_0 : Nat) (hk_0 : nR k_0) (a1 : Int32) (a2 : Int32) (a3 : Int32) (a4 : Int32) (a5 : Int32), s8 k_0 a1 a2 a3 a4 a5 σ = some r → nJ p l e rmX6_quarrelIn s m args below meth c 0 0 (MQ below (nQi D B r σ s.heap.size) args s 0 0 (nA B s.heap.size)) D B 6 8 [(0, .ref (na B k_0)), (1, .int a1), (2, .int a2), (3, .int a3), (4, .int a4), (5, .int a5)] [] σ) (k_0 : Nat) (hk_0 : nR k_0) (a1 : Int32) (a2 : Int32) (a4 : Int32) (a5 : Int32) (z0 : Int32) (z1 : Int32) (h : fX6_quarrelIn_b39 s8 k_0 a1 a2 a4 a5 z0 z1 σ = some r), nJ p l e rmX6_quarrelIn s m args below meth c 0 0 (MQ below (nQi D B r σ s.heap.size) args s 0 0 (nA B s.heap.size)) D B 6 39 [(0, .ref (na B k_0)), (1, .int a1), (2, .int a2), (4, .int a4), (5, .int a5)] [.int z0, .int z1] σ := by
    intro s8 hs8 k_0 hk_0 a1 a2 a4 a5 z0 z1 h
    rw [fX6_quarrelIn_b39] at h
    refine nx_ior C0 dX6_quarrelIn_39 ?_
    obtain ⟨v1, ev1, h⟩ := nlet h
    refine nx_istore_n (i := 3) (y := v1) (lv' := [(3, .int v1), (0, .ref (na B k_0)), (1, .int a1), (2, .int a2), (4, .int a4), (5, .int a5)]) C0 dX6_quarrelIn_40 rfl (by decide) ev1 rfl ?_
    refine nx_iload C0 4 dX6_quarrelIn_41 rfl ?_
    refine nx_aload_n C0 1 dX6_quarrelIn_43 rfl ?_
    refine nx_iload C0 5 dX6_quarrelIn_44 rfl ?_
    refine nx_iload_n C0 2 dX6_quarrelIn_46 rfl ?_
    obtain ⟨r3, c2, h⟩ := nbind h
    refine nx_cSi (n := 3) (As := [.ref (na B k_0), .int a5, .int a1]) (st := [.int a4]) C0 (mX6_worthIn l D B hB hk_0 a5 a1 σ c2) gX6_quarrelIn_X6_worthIn rfl rfl rfl ndX6_worthIn ⟨Nat.le_of_ble_eq_true rfl, Nat.le_of_ble_eq_true rfl⟩ rfl (Nat.le_of_ble_eq_true rfl) rfl dX6_quarrelIn_47 ?_
    refine nx_aload_n C0 1 dX6_quarrelIn_50 rfl ?_
    refine nx_iload C0 5 dX6_quarrelIn_51 rfl ?_
    refine nx_iload_n C0 3 dX6_quarrelIn_53 rfl ?_
    obtain ⟨r5, c4, h⟩ := nbind h
    refine nx_cSi (n := 3) (As := [.ref (na B k_0), .int a5, .int a2]) (st := [.int r3, .int a4]) C0 (mX6_worthIn l D B hB hk_0 a5 a2 σ c4) gX6_quarrelIn_X6_worthIn rfl rfl rfl ndX6_worthIn ⟨Nat.le_of_ble_eq_true rfl, Nat.le_of_ble_eq_true rfl⟩ rfl (Nat.le_of_ble_eq_true rfl) rfl dX6_quarrelIn_54 ?_
    refine nx_icmp_ge (tgt := 64) C0 dX6_quarrelIn_57 (by decide) (fun q => ?_) (fun q => ?_)
    · have h := nift q h
      refine nx_iconst (v := 0) C0 dX6_quarrelIn_64 (by decide) ?_
      refine nx_ior C0 dX6_quarrelIn_65 ?_
      obtain ⟨v6, ev6, h⟩ := nlet h
      refine nx_istore (i := 4) (y := v6) (lv' := [(4, .int v6), (3, .int v1), (0, .ref (na B k_0)), (1, .int a1), (2, .int a2), (5, .int a5)]) C0 dX6_quarrelIn_66 (by decide) ev6 rfl ?_
      obtain ⟨v7, ev7, h⟩ := nlet h
      refine nx_iinc (v := v7) (lv' := [(5, .int v7), (4, .int v6), (3, .int v1), (0, .ref (na B k_0)), (1, .int a1), (2, .int a2)]) C0 5 dX6_quarrelIn_68 rfl ev7 (by decide) rfl ?_
      refine nx_goto (tgt := 8) C0 dX6_quarrelIn_71 (by decide) ?_
      refine nx_lv (lv' := [(0, .ref (na B k_0)), (1, .int a1), (2, .int a2), (3, .int v1), (4, .int v6), (5, .int v7)]) [3, 4, 5, 2, 1, 0] rfl ?_
      exact hs8 k_0 hk_0 a1 a2 v1 v6 v7 h
    · have h := niff q h
      refine nx_iconst (v := 1) C0 dX6_quarrelIn_60 (by decide) ?_
      refine nx_goto (tgt := 65) C0 dX6_quarrelIn_61 (by decide) ?_
      refine nx_ior C0 dX6_quarrelIn_65 ?_
      obtain ⟨v8, ev8, h⟩ := nlet h
      refine nx_istore (i := 4) (y := v8) (lv' := [(4, .int v8), (3, .int v1), (0, .ref (na B k_0)), (1, .int a1), (2, .int a2), (5, .int a5)]) C0 dX6_quarrelIn_66 (by decide) ev8 rfl ?_
      obtain ⟨v9, ev9, h⟩ := nlet h
      refine nx_iinc (v := v9) (lv' := [(5, .int v9), (4, .int v8), (3, .int v1), (0, .ref (na B k_0)), (1, .int a1), (2, .int a2)]) C0 5 dX6_quarrelIn_68 rfl ev9 (by decide) rfl ?_
      refine nx_goto (tgt := 8) C0 dX6_quarrelIn_71 (by decide) ?_
      refine nx_lv (lv' := [(0, .ref (na B k_0)), (1, .int a1), (2, .int a2), (3, .int v1), (4, .int v8), (5, .int v9)]) [3, 4, 5, 2, 1, 0] rfl ?_
      exact hs8 k_0 hk_0 a1 a2 v1 v8 v9 h
  have hfX6_quarrelIn_b8 : ∀  (n : Nat) (k_0 : Nat) (hk_0 : nR k_0) (a1 : Int32) (a2 : Int32) (a3 : Int32) (a4 : Int32) (a5 : Int32) (h : fX6_quarrelIn_b8  n k_0 a1 a2 a3 a4 a5 σ = some r), nJ p l e rmX6_quarrelIn s m args below meth c 0 0 (MQ below (nQi D B r σ s.heap.size) args s 0 0 (nA B s.heap.size)) D B 6 8 [(0, .ref (na B k_0)), (1, .int a1), (2, .int a2), (3, .int a3), (4, .int a4), (5, .int a5)] [] σ := by
    intro  n
    induction n with
    | zero => intro k_0 hk_0 a1 a2 a3 a4 a5 h; cases h
    | succ n ih =>
        intro k_0 hk_0 a1 a2 a3 a4 a5 h
        rw [fX6_quarrelIn_b8] at h
        refine nx_iload C0 5 dX6_quarrelIn_8 rfl ?_
        refine nx_aload_n C0 0 dX6_quarrelIn_10 rfl ?_
        refine nx_iconst (v := 1) C0 dX6_quarrelIn_11 (by decide) ?_
        obtain ⟨g10, h⟩ := nguard h
        refine nx_iald C0 (nR_c hk_0) g10 dX6_quarrelIn_12 ?_
        refine nx_icmp_ge (tgt := 74) C0 dX6_quarrelIn_13 (by decide) (fun q => ?_) (fun q => ?_)
        · have h := nift q h
          refine nx_iload_n C0 3 dX6_quarrelIn_74 rfl ?_
          refine nx_if_eq (tgt := 87) C0 dX6_quarrelIn_75 (by decide) (fun q => ?_) (fun q => ?_)
          · have h := nift q h
            refine nx_iconst (v := 0) C0 dX6_quarrelIn_87 (by decide) ?_
            exact nr_i C0 hr dX6_quarrelIn_88 h
          · have h := niff q h
            refine nx_iload C0 4 dX6_quarrelIn_78 rfl ?_
            refine nx_if_eq (tgt := 87) C0 dX6_quarrelIn_80 (by decide) (fun q => ?_) (fun q => ?_)
            · have h := nift q h
              refine nx_iconst (v := 0) C0 dX6_quarrelIn_87 (by decide) ?_
              exact nr_i C0 hr dX6_quarrelIn_88 h
            · have h := niff q h
              refine nx_iconst (v := 1) C0 dX6_quarrelIn_83 (by decide) ?_
              refine nx_goto (tgt := 88) C0 dX6_quarrelIn_84 (by decide) ?_
              exact nr_i C0 hr dX6_quarrelIn_88 h
        · have h := niff q h
          refine nx_iload_n C0 3 dX6_quarrelIn_16 rfl ?_
          refine nx_aload_n C0 0 dX6_quarrelIn_17 rfl ?_
          refine nx_iload C0 5 dX6_quarrelIn_18 rfl ?_
          refine nx_iload_n C0 1 dX6_quarrelIn_20 rfl ?_
          obtain ⟨r12, c11, h⟩ := nbind h
          refine nx_cSi (n := 3) (As := [.ref (na B k_0), .int a5, .int a1]) (st := [.int a3]) C0 (mX6_worthIn l D B hB hk_0 a5 a1 σ c11) gX6_quarrelIn_X6_worthIn rfl rfl rfl ndX6_worthIn ⟨Nat.le_of_ble_eq_true rfl, Nat.le_of_ble_eq_true rfl⟩ rfl (Nat.le_of_ble_eq_true rfl) rfl dX6_quarrelIn_21 ?_
          refine nx_aload_n C0 0 dX6_quarrelIn_24 rfl ?_
          refine nx_iload C0 5 dX6_quarrelIn_25 rfl ?_
          refine nx_iload_n C0 2 dX6_quarrelIn_27 rfl ?_
          obtain ⟨r14, c13, h⟩ := nbind h
          refine nx_cSi (n := 3) (As := [.ref (na B k_0), .int a5, .int a2]) (st := [.int r12, .int a3]) C0 (mX6_worthIn l D B hB hk_0 a5 a2 σ c13) gX6_quarrelIn_X6_worthIn rfl rfl rfl ndX6_worthIn ⟨Nat.le_of_ble_eq_true rfl, Nat.le_of_ble_eq_true rfl⟩ rfl (Nat.le_of_ble_eq_true rfl) rfl dX6_quarrelIn_28 ?_
          refine nx_icmp_le (tgt := 38) C0 dX6_quarrelIn_31 (by decide) (fun q => ?_) (fun q => ?_)
          · have h := nift q h
            refine nx_iconst (v := 0) C0 dX6_quarrelIn_38 (by decide) ?_
            refine nx_lv (lv' := [(0, .ref (na B k_0)), (1, .int a1), (2, .int a2), (4, .int a4), (5, .int a5)]) [0, 1, 2, 4, 5] rfl ?_
            exact hfX6_quarrelIn_b39 (fX6_quarrelIn_b8 n) ih k_0 hk_0 a1 a2 a4 a5 (0 : Int32) a3 h
          · have h := niff q h
            refine nx_iconst (v := 1) C0 dX6_quarrelIn_34 (by decide) ?_
            refine nx_goto (tgt := 39) C0 dX6_quarrelIn_35 (by decide) ?_
            refine nx_lv (lv' := [(0, .ref (na B k_0)), (1, .int a1), (2, .int a2), (4, .int a4), (5, .int a5)]) [0, 1, 2, 4, 5] rfl ?_
            exact hfX6_quarrelIn_b39 (fX6_quarrelIn_b8 n) ih k_0 hk_0 a1 a2 a4 a5 (1 : Int32) a3 h
  refine nx_lv (lv' := [(0, .ref (na B k0)), (1, .int x1), (2, .int x2)]) [0, 1, 2] rfl ?_
  rw [fX6_quarrelIn] at h
  refine nx_iconst (v := 0) C0 dX6_quarrelIn_0 (by decide) ?_
  refine nx_istore_n (i := 3) (y := (0 : Int32)) (lv' := [(3, .int (0 : Int32)), (0, .ref (na B k0)), (1, .int x1), (2, .int x2)]) C0 dX6_quarrelIn_1 rfl (by decide) rfl rfl ?_
  refine nx_iconst (v := 0) C0 dX6_quarrelIn_2 (by decide) ?_
  refine nx_istore (i := 4) (y := (0 : Int32)) (lv' := [(4, .int (0 : Int32)), (3, .int (0 : Int32)), (0, .ref (na B k0)), (1, .int x1), (2, .int x2)]) C0 dX6_quarrelIn_3 (by decide) rfl rfl ?_
  refine nx_iconst (v := 0) C0 dX6_quarrelIn_5 (by decide) ?_
  refine nx_istore (i := 5) (y := (0 : Int32)) (lv' := [(5, .int (0 : Int32)), (4, .int (0 : Int32)), (3, .int (0 : Int32)), (0, .ref (na B k0)), (1, .int x1), (2, .int x2)]) C0 dX6_quarrelIn_6 (by decide) rfl rfl ?_
  refine nx_lv (lv' := [(0, .ref (na B k0)), (1, .int x1), (2, .int x2), (3, .int (0 : Int32)), (4, .int (0 : Int32)), (5, .int (0 : Int32))]) [3, 4, 5, 2, 1, 0] rfl ?_
  exact hfX6_quarrelIn_b8 4096 k0 hk0 x1 x2 (0 : Int32) (0 : Int32) (0 : Int32) h
def rmX6_quarrel : Room := { frames := 4, cells := 0, slots := 0, locals := 92 }
theorem ndX6_quarrel : yX6_quarrel.cls = RX6 ∧ yX6_quarrel.cls ≠ "java/lang/invoke/MethodHandle" ∧ yX6_quarrel.cls ≠ "java/lang/invoke/VarHandle" ∧ (parseMethodDescriptor yX6_quarrel.desc).map (fun d => d.parameters.length) = some 2 := by decide +kernel
set_option maxRecDepth 100000 in
set_option maxHeartbeats 4000000 in
theorem mX6_quarrel (l : Launch) (D : va_G) (B : nBT) (hB : nInj B) (x1 : Int32) (x2 : Int32) (σ : nS) {r : Int32}  (h : fX6_quarrel x1 x2 σ = some r) : nMi l D B yX6_quarrel wsX6_quarrel rmX6_quarrel [.ref (na B 63), .int x1, .int x2] σ r σ := by
  refine nmet (cc := cX6_quarrel) (maxL := 3) (ret := (some .int)) (own := RX6) (av := [.ref (na B 63), .int x1, .int x2]) (nQi D B r σ) hB (by decide) rfl rfl (Nat.le_of_ble_eq_true rfl) (fun p e s m args below meth c C0 hr => ?_)
  have hh0 : ∀ w ∈ wsX60, w ∈ wsX6_quarrel := by decide +kernel
  have hh1 := C0.2.2.2.2.1 (Cond.fieldLink RX6 9 "NotInTheCoinModel" "s" "[I") (by decide +kernel)
  refine nx_lv (lv' := [(0, .ref (na B 63)), (1, .int x1), (2, .int x2)]) [0, 1, 2] rfl ?_
  rw [fX6_quarrel] at h
  refine nx_aload_n C0 0 dX6_quarrel_0 rfl ?_
  refine nx_iload_n C0 1 dX6_quarrel_1 rfl ?_
  obtain ⟨r2, c1, h⟩ := nbind h
  refine nx_cVi (ci := 6) (n := 1) (As := [.int x1]) (st := []) C0 (mX6_isGood l D B hB x1 σ c1) gX6_quarrel_X6_isGood rfl rfl rfl ndX6_isGood ⟨Nat.le_of_ble_eq_true rfl, Nat.le_of_ble_eq_true rfl⟩ (by decide) rfl rfl rfl rfl (Nat.le_of_ble_eq_true rfl) rfl dX6_quarrel_2 ?_
  refine nx_if_eq (tgt := 33) C0 dX6_quarrel_5 (by decide) (fun q => ?_) (fun q => ?_)
  · have h := nift q h
    refine nx_iconst (v := -1) C0 dX6_quarrel_33 (by decide) ?_
    exact nr_i C0 hr dX6_quarrel_34 h
  · have h := niff q h
    refine nx_aload_n C0 0 dX6_quarrel_8 rfl ?_
    refine nx_iload_n C0 2 dX6_quarrel_9 rfl ?_
    obtain ⟨r4, c3, h⟩ := nbind h
    refine nx_cVi (ci := 6) (n := 1) (As := [.int x2]) (st := []) C0 (mX6_isGood l D B hB x2 σ c3) gX6_quarrel_X6_isGood rfl rfl rfl ndX6_isGood ⟨Nat.le_of_ble_eq_true rfl, Nat.le_of_ble_eq_true rfl⟩ (by decide) rfl rfl rfl rfl (Nat.le_of_ble_eq_true rfl) rfl dX6_quarrel_10 ?_
    refine nx_if_eq (tgt := 33) C0 dX6_quarrel_13 (by decide) (fun q => ?_) (fun q => ?_)
    · have h := nift q h
      refine nx_iconst (v := -1) C0 dX6_quarrel_33 (by decide) ?_
      exact nr_i C0 hr dX6_quarrel_34 h
    · have h := niff q h
      refine nx_iload_n C0 1 dX6_quarrel_16 rfl ?_
      refine nx_iload_n C0 2 dX6_quarrel_17 rfl ?_
      refine nx_icmp_eq (tgt := 33) C0 dX6_quarrel_18 (by decide) (fun q => ?_) (fun q => ?_)
      · have h := nift q h
        refine nx_iconst (v := -1) C0 dX6_quarrel_33 (by decide) ?_
        exact nr_i C0 hr dX6_quarrel_34 h
      · have h := niff q h
        refine nx_aload_n C0 0 dX6_quarrel_21 rfl ?_
        refine nx_gX6_s C0 hh0 hh1 dX6_quarrel_22 ?_
        refine nx_iload_n C0 1 dX6_quarrel_25 rfl ?_
        refine nx_iload_n C0 2 dX6_quarrel_26 rfl ?_
        obtain ⟨r6, c5, h⟩ := nbind h
        refine nx_cSi (n := 3) (As := [.ref (na B 64), .int x1, .int x2]) (st := []) C0 (mX6_quarrelIn l D B hB nR64 x1 x2 σ c5) gX6_quarrel_X6_quarrelIn rfl rfl rfl ndX6_quarrelIn ⟨Nat.le_of_ble_eq_true rfl, Nat.le_of_ble_eq_true rfl⟩ rfl (Nat.le_of_ble_eq_true rfl) rfl dX6_quarrel_27 ?_
        refine nx_goto (tgt := 34) C0 dX6_quarrel_30 (by decide) ?_
        exact nr_i C0 hr dX6_quarrel_34 h
def rmX6_fitsList : Room := { frames := 0, cells := 0, slots := 0, locals := 0 }
theorem ndX6_fitsList : yX6_fitsList.cls = RX6 ∧ yX6_fitsList.cls ≠ "java/lang/invoke/MethodHandle" ∧ yX6_fitsList.cls ≠ "java/lang/invoke/VarHandle" ∧ (parseMethodDescriptor yX6_fitsList.desc).map (fun d => d.parameters.length) = some 1 := by decide +kernel
set_option maxRecDepth 100000 in
set_option maxHeartbeats 4000000 in
theorem mX6_fitsList (l : Launch) (D : va_G) (B : nBT) (hB : nInj B) (x1 : Int32) (σ : nS) {r : Int32}  (h : fX6_fitsList x1 σ = some r) : nMi l D B yX6_fitsList wsX6_fitsList rmX6_fitsList [.ref (na B 63), .int x1] σ r σ := by
  refine nmet (cc := cX6_fitsList) (maxL := 5) (ret := (some .boolean)) (own := RX6) (av := [.ref (na B 63), .int x1]) (nQi D B r σ) hB (by decide) rfl rfl (Nat.le_of_ble_eq_true rfl) (fun p e s m args below meth c C0 hr => ?_)
  have hh0 : ∀ w ∈ wsX60, w ∈ wsX6_fitsList := by decide +kernel
  have hh1 := C0.2.2.2.2.1 (Cond.fieldLink RX6 49 "NotInTheCoinModel" "element" "[I") (by decide +kernel)
  have hh2 := C0.2.2.2.2.1 (Cond.fieldLink RX6 193 "NotInTheCoinModel" "listRow" "I") (by decide +kernel)
  have hh3 := C0.2.2.2.2.1 (Cond.fieldLink RX6 46 "NotInTheCoinModel" "size" "[I") (by decide +kernel)
  have hh4 := C0.2.2.2.2.1 (Cond.fieldLink RX6 31 "NotInTheCoinModel" "list" "[I") (by decide +kernel)
  have hfX6_fitsList_b105 : ∀ (s2 : Int32 → Int32 → nS → Option Int32) (hs2 : ∀ (a1 : Int32) (a2 : Int32), s2 a1 a2 σ = some r → nJ p l e rmX6_fitsList s m args below meth c 0 0 (MQ below (nQi D B r σ s.heap.size) args s 0 0 (nA B s.heap.size)) D B 5 2 [(0, .ref (na B 63)), (1, .int a1), (2, .int a2)] [] σ) (a1 : Int32) (a2 : Int32) (z0 : Int32) (z1 : Int32) (h : fX6_fitsList_b105 s2 a1 a2 z0 z1 σ = some r), nJ p l e rmX6_fitsList s m args below meth c 0 0 (MQ below (nQi D B r σ s.heap.size) args s 0 0 (nA B s.heap.size)) D B 5 105 [(0, .ref (na B 63)), (1, .int a1), (2, .int a2)] [.int z0, .int z1] σ := by
    intro s2 hs2 a1 a2 z0 z1 h
    rw [fX6_fitsList_b105] at h
    refine nx_icmp_eq (tgt := 110) C0 dX6_fitsList_105 (by decide) (fun q => ?_) (fun q => ?_)
    · have h := nift q h
      obtain ⟨v1, ev1, h⟩ := nlet h
      refine nx_iinc (v := v1) (lv' := [(2, .int v1), (0, .ref (na B 63)), (1, .int a1)]) C0 2 dX6_fitsList_110 rfl ev1 (by decide) rfl ?_
      refine nx_goto (tgt := 2) C0 dX6_fitsList_113 (by decide) ?_
      refine nx_lv (lv' := [(0, .ref (na B 63)), (1, .int a1), (2, .int v1)]) [1, 2, 0] rfl ?_
      exact hs2 a1 v1 h
    · have h := niff q h
      refine nx_iconst (v := 0) C0 dX6_fitsList_108 (by decide) ?_
      exact nr_z C0 hr (Or.inl rfl) dX6_fitsList_109 h
  have hfX6_fitsList_b80 : ∀ (s2 : Int32 → Int32 → nS → Option Int32) (hs2 : ∀ (a1 : Int32) (a2 : Int32), s2 a1 a2 σ = some r → nJ p l e rmX6_fitsList s m args below meth c 0 0 (MQ below (nQi D B r σ s.heap.size) args s 0 0 (nA B s.heap.size)) D B 5 2 [(0, .ref (na B 63)), (1, .int a1), (2, .int a2)] [] σ) (a1 : Int32) (a2 : Int32) (z0 : Int32) (h : fX6_fitsList_b80 s2 a1 a2 z0 σ = some r), nJ p l e rmX6_fitsList s m args below meth c 0 0 (MQ below (nQi D B r σ s.heap.size) args s 0 0 (nA B s.heap.size)) D B 5 80 [(0, .ref (na B 63)), (1, .int a1), (2, .int a2)] [.int z0] σ := by
    intro s2 hs2 a1 a2 z0 h
    rw [fX6_fitsList_b80] at h
    refine nx_aload_n C0 0 dX6_fitsList_80 rfl ?_
    refine nx_gX6_element C0 hh0 hh1 dX6_fitsList_81 ?_
    refine nx_bipush (v := 100) C0 dX6_fitsList_84 (by decide) ?_
    refine nx_aload_n C0 0 dX6_fitsList_86 rfl ?_
    refine nx_gX6_listRow C0 hh0 hh2 dX6_fitsList_87 ?_
    refine nx_imul C0 dX6_fitsList_90 ?_
    refine nx_iload_n C0 2 dX6_fitsList_91 rfl ?_
    refine nx_iadd C0 dX6_fitsList_92 ?_
    refine nx_iconst (v := 2) C0 dX6_fitsList_93 (by decide) ?_
    refine nx_iadd C0 dX6_fitsList_94 ?_
    obtain ⟨g2, h⟩ := nguard h
    refine nx_iald C0 nI_77 g2 dX6_fitsList_95 ?_
    refine nx_iconst (v := 1) C0 dX6_fitsList_96 (by decide) ?_
    refine nx_icmp_ne (tgt := 104) C0 dX6_fitsList_97 (by decide) (fun q => ?_) (fun q => ?_)
    · have h := niff q h
      refine nx_iconst (v := 0) C0 dX6_fitsList_104 (by decide) ?_
      exact hfX6_fitsList_b105 s2 hs2 a1 a2 (0 : Int32) z0 h
    · have h := nift q h
      refine nx_iconst (v := 1) C0 dX6_fitsList_100 (by decide) ?_
      refine nx_goto (tgt := 105) C0 dX6_fitsList_101 (by decide) ?_
      exact hfX6_fitsList_b105 s2 hs2 a1 a2 (1 : Int32) z0 h
  have hfX6_fitsList_b2 : ∀  (n : Nat) (a1 : Int32) (a2 : Int32) (h : fX6_fitsList_b2  n a1 a2 σ = some r), nJ p l e rmX6_fitsList s m args below meth c 0 0 (MQ below (nQi D B r σ s.heap.size) args s 0 0 (nA B s.heap.size)) D B 5 2 [(0, .ref (na B 63)), (1, .int a1), (2, .int a2)] [] σ := by
    intro  n
    induction n with
    | zero => intro a1 a2 h; cases h
    | succ n ih =>
        intro a1 a2 h
        rw [fX6_fitsList_b2] at h
        refine nx_iload_n C0 2 dX6_fitsList_2 rfl ?_
        refine nx_aload_n C0 0 dX6_fitsList_3 rfl ?_
        refine nx_gX6_size C0 hh0 hh3 dX6_fitsList_4 ?_
        refine nx_aload_n C0 0 dX6_fitsList_7 rfl ?_
        refine nx_gX6_listRow C0 hh0 hh2 dX6_fitsList_8 ?_
        obtain ⟨g3, h⟩ := nguard h
        refine nx_iald C0 nI_76 g3 dX6_fitsList_11 ?_
        refine nx_icmp_ge (tgt := 116) C0 dX6_fitsList_12 (by decide) (fun q => ?_) (fun q => ?_)
        · have h := nift q h
          refine nx_iconst (v := 1) C0 dX6_fitsList_116 (by decide) ?_
          exact nr_z C0 hr (Or.inr rfl) dX6_fitsList_117 h
        · have h := niff q h
          refine nx_aload_n C0 0 dX6_fitsList_15 rfl ?_
          refine nx_gX6_element C0 hh0 hh1 dX6_fitsList_16 ?_
          refine nx_bipush (v := 100) C0 dX6_fitsList_19 (by decide) ?_
          refine nx_aload_n C0 0 dX6_fitsList_21 rfl ?_
          refine nx_gX6_listRow C0 hh0 hh2 dX6_fitsList_22 ?_
          refine nx_imul C0 dX6_fitsList_25 ?_
          refine nx_iload_n C0 2 dX6_fitsList_26 rfl ?_
          refine nx_iadd C0 dX6_fitsList_27 ?_
          obtain ⟨g4, h⟩ := nguard h
          refine nx_iald C0 nI_77 g4 dX6_fitsList_28 ?_
          obtain ⟨v5, ev5, h⟩ := nlet h
          refine nx_istore_n (i := 3) (y := v5) (lv' := [(3, .int v5), (0, .ref (na B 63)), (1, .int a1), (2, .int a2)]) C0 dX6_fitsList_29 rfl (by decide) ev5 rfl ?_
          refine nx_aload_n C0 1 dX6_fitsList_30 rfl ?_
          refine nx_gX6_element C0 hh0 hh1 dX6_fitsList_31 ?_
          refine nx_bipush (v := 100) C0 dX6_fitsList_34 (by decide) ?_
          refine nx_aload_n C0 1 dX6_fitsList_36 rfl ?_
          refine nx_gX6_listRow C0 hh0 hh2 dX6_fitsList_37 ?_
          refine nx_imul C0 dX6_fitsList_40 ?_
          refine nx_iload_n C0 3 dX6_fitsList_41 rfl ?_
          refine nx_iadd C0 dX6_fitsList_42 ?_
          refine nx_iconst (v := 1) C0 dX6_fitsList_43 (by decide) ?_
          refine nx_iadd C0 dX6_fitsList_44 ?_
          obtain ⟨g6, h⟩ := nguard h
          refine nx_iald C0 nI_77 g6 dX6_fitsList_45 ?_
          obtain ⟨v7, ev7, h⟩ := nlet h
          refine nx_istore (i := 4) (y := v7) (lv' := [(4, .int v7), (3, .int v5), (0, .ref (na B 63)), (1, .int a1), (2, .int a2)]) C0 dX6_fitsList_46 (by decide) ev7 rfl ?_
          refine nx_iload_n C0 1 dX6_fitsList_48 rfl ?_
          refine nx_iload_n C0 3 dX6_fitsList_49 rfl ?_
          refine nx_icmp_gt (tgt := 110) C0 dX6_fitsList_50 (by decide) (fun q => ?_) (fun q => ?_)
          · have h := nift q h
            obtain ⟨v8, ev8, h⟩ := nlet h
            refine nx_iinc (v := v8) (lv' := [(2, .int v8), (4, .int v7), (3, .int v5), (0, .ref (na B 63)), (1, .int a1)]) C0 4 dX6_fitsList_110 rfl ev8 (by decide) rfl ?_
            refine nx_goto (tgt := 2) C0 dX6_fitsList_113 (by decide) ?_
            refine nx_lv (lv' := [(0, .ref (na B 63)), (1, .int a1), (2, .int v8)]) [3, 4, 0] rfl ?_
            exact ih a1 v8 h
          · have h := niff q h
            refine nx_iload C0 0 dX6_fitsList_53 rfl ?_
            refine nx_iload_n C0 3 dX6_fitsList_55 rfl ?_
            refine nx_icmp_gt (tgt := 110) C0 dX6_fitsList_56 (by decide) (fun q => ?_) (fun q => ?_)
            · have h := nift q h
              obtain ⟨v9, ev9, h⟩ := nlet h
              refine nx_iinc (v := v9) (lv' := [(2, .int v9), (4, .int v7), (3, .int v5), (0, .ref (na B 63)), (1, .int a1)]) C0 4 dX6_fitsList_110 rfl ev9 (by decide) rfl ?_
              refine nx_goto (tgt := 2) C0 dX6_fitsList_113 (by decide) ?_
              refine nx_lv (lv' := [(0, .ref (na B 63)), (1, .int a1), (2, .int v9)]) [3, 4, 0] rfl ?_
              exact ih a1 v9 h
            · have h := niff q h
              refine nx_aload_n C0 2 dX6_fitsList_59 rfl ?_
              refine nx_gX6_list C0 hh0 hh4 dX6_fitsList_60 ?_
              refine nx_iload_n C0 1 dX6_fitsList_63 rfl ?_
              obtain ⟨g10, h⟩ := nguard h
              refine nx_iald C0 nI_71 g10 dX6_fitsList_64 ?_
              refine nx_aload_n C0 2 dX6_fitsList_65 rfl ?_
              refine nx_gX6_list C0 hh0 hh4 dX6_fitsList_66 ?_
              refine nx_iload C0 0 dX6_fitsList_69 rfl ?_
              obtain ⟨g11, h⟩ := nguard h
              refine nx_iald C0 nI_71 g11 dX6_fitsList_71 ?_
              refine nx_icmp_ne (tgt := 79) C0 dX6_fitsList_72 (by decide) (fun q => ?_) (fun q => ?_)
              · have h := niff q h
                refine nx_iconst (v := 0) C0 dX6_fitsList_79 (by decide) ?_
                refine nx_lv (lv' := [(0, .ref (na B 63)), (1, .int a1), (2, .int a2)]) [2, 3, 4] rfl ?_
                exact hfX6_fitsList_b80 (fX6_fitsList_b2 n) ih a1 a2 (0 : Int32) h
              · have h := nift q h
                refine nx_iconst (v := 1) C0 dX6_fitsList_75 (by decide) ?_
                refine nx_goto (tgt := 80) C0 dX6_fitsList_76 (by decide) ?_
                refine nx_lv (lv' := [(0, .ref (na B 63)), (1, .int a1), (2, .int a2)]) [2, 3, 4] rfl ?_
                exact hfX6_fitsList_b80 (fX6_fitsList_b2 n) ih a1 a2 (1 : Int32) h
  refine nx_lv (lv' := [(0, .ref (na B 63)), (1, .int x1)]) [0, 1] rfl ?_
  rw [fX6_fitsList] at h
  refine nx_iconst (v := 0) C0 dX6_fitsList_0 (by decide) ?_
  refine nx_istore_n (i := 2) (y := (0 : Int32)) (lv' := [(2, .int (0 : Int32)), (0, .ref (na B 63)), (1, .int x1)]) C0 dX6_fitsList_1 rfl (by decide) rfl rfl ?_
  refine nx_lv (lv' := [(0, .ref (na B 63)), (1, .int x1), (2, .int (0 : Int32))]) [1, 2, 0] rfl ?_
  exact hfX6_fitsList_b2 4096 x1 (0 : Int32) h
def rmX6_isListed (n : Nat) : Room := { frames := n + 1, cells := 0, slots := 0, locals := n * 24 + 24 }
theorem ndX6_isListed : yX6_isListed.cls = RX6 ∧ yX6_isListed.cls ≠ "java/lang/invoke/MethodHandle" ∧ yX6_isListed.cls ≠ "java/lang/invoke/VarHandle" ∧ (parseMethodDescriptor yX6_isListed.desc).map (fun d => d.parameters.length) = some 3 := by decide +kernel
set_option maxRecDepth 100000 in
set_option maxHeartbeats 4000000 in
theorem mX6_isListed (l : Launch) (D : va_G) (B : nBT) (hB : nInj B) : ∀ (d : Nat) (x1 : Int32) (x2 : Int32) (x3 : Int32) (σ : nS) {r : Int32} {σ1 : nS} (h : fX6_isListed d x1 x2 x3 σ = some (r, σ1)), nMi l D B yX6_isListed wsX6_isListed (rmX6_isListed d) [.ref (na B 63), .int x1, .int x2, .int x3] σ r σ1 := by
  intro d
  induction d with
  | zero => intro x1 x2 x3 σ r σ1 h; cases h
  | succ d hrec0 =>
  intro x1 x2 x3 σ r σ1 h
  have h : fX6_isListed_e (fX6_isListed d) x1 x2 x3 σ = some (r, σ1) := h
  have hrec : ∀ (x1 : Int32) (x2 : Int32) (x3 : Int32) (σ : nS) {r : Int32} {σ1 : nS} (h : fX6_isListed d x1 x2 x3 σ = some (r, σ1)), nMi l D B yX6_isListed wsX6_isListed (rmX6_isListed d) [.ref (na B 63), .int x1, .int x2, .int x3] σ r σ1 := fun x1 x2 x3 σ {r} {σ1} h => hrec0 x1 x2 x3 σ h
  generalize fX6_isListed d = rec at h hrec
  clear hrec0
  refine nmet (cc := cX6_isListed) (maxL := 5) (ret := (some .boolean)) (own := RX6) (av := [.ref (na B 63), .int x1, .int x2, .int x3]) (nQi D B r σ1) hB (by decide) rfl rfl (Nat.le_of_ble_eq_true rfl) (fun p e s m args below meth c C0 hr => ?_)
  have hh0 : ∀ w ∈ wsX60, w ∈ wsX6_isListed := by decide +kernel
  have hh1 := C0.2.2.2.2.1 (Cond.fieldLink RX6 31 "NotInTheCoinModel" "list" "[I") (by decide +kernel)
  have hfX6_isListed_b66 : ∀ (s20 : Int32 → Int32 → Int32 → Int32 → nS → Option (Int32 × nS)) (hs20 : ∀ (a1 : Int32) (a2 : Int32) (a3 : Int32) (a4 : Int32) (σ : nS), s20 a1 a2 a3 a4 σ = some (r, σ1) → nJ p l e (rmX6_isListed (d + 1)) s m args below meth c 0 0 (MQ below (nQi D B r σ1 s.heap.size) args s 0 0 (nA B s.heap.size)) D B 5 20 [(0, .ref (na B 63)), (1, .int a1), (2, .int a2), (3, .int a3), (4, .int a4)] [] σ) (a1 : Int32) (a2 : Int32) (a3 : Int32) (a4 : Int32) (z0 : Int32) (z1 : Int32) (z2 : Int32) (σ : nS) (h : fX6_isListed_b66 rec s20 a1 a2 a3 a4 z0 z1 z2 σ = some (r, σ1)), nJ p l e (rmX6_isListed (d + 1)) s m args below meth c 0 0 (MQ below (nQi D B r σ1 s.heap.size) args s 0 0 (nA B s.heap.size)) D B 5 66 [(0, .ref (na B 63)), (1, .int a1), (2, .int a2), (3, .int a3), (4, .int a4)] [.int z0, .int z1, .int z2, .ref (na B 63)] σ := by
    intro s20 hs20 a1 a2 a3 a4 z0 z1 z2 σ h
    rw [fX6_isListed_b66] at h
    obtain ⟨r2, t3, c1, h⟩ := nbind2 h
    refine nx_cVi (ci := 6) (n := 3) (As := [.int z2, .int z1, .int z0]) (st := []) C0 (hrec z2 z1 z0 σ c1) gX6_isListed_X6_isListed rfl rfl rfl ndX6_isListed ⟨by simp only [rmX6_isListed]; omega, by simp only [rmX6_isListed]; omega⟩ (by decide) rfl rfl rfl rfl (Nat.le_of_ble_eq_true rfl) rfl dX6_isListed_66 ?_
    refine nx_if_eq (tgt := 74) C0 dX6_isListed_69 (by decide) (fun q => ?_) (fun q => ?_)
    · have h := nift q h
      obtain ⟨v4, ev4, h⟩ := nlet h
      refine nx_iinc (v := v4) (lv' := [(4, .int v4), (0, .ref (na B 63)), (1, .int a1), (2, .int a2), (3, .int a3)]) C0 4 dX6_isListed_74 rfl ev4 (by decide) rfl ?_
      refine nx_goto (tgt := 20) C0 dX6_isListed_77 (by decide) ?_
      refine nx_lv (lv' := [(0, .ref (na B 63)), (1, .int a1), (2, .int a2), (3, .int a3), (4, .int v4)]) [1, 2, 3, 4, 0] rfl ?_
      exact hs20 a1 a2 a3 v4 t3 h
    · have h := niff q h
      refine nx_iconst (v := 1) C0 dX6_isListed_72 (by decide) ?_
      exact nr_z2 C0 hr (Or.inr rfl) dX6_isListed_73 h
  have hfX6_isListed_b20 : ∀  (n : Nat) (a1 : Int32) (a2 : Int32) (a3 : Int32) (a4 : Int32) (σ : nS) (h : fX6_isListed_b20 rec n a1 a2 a3 a4 σ = some (r, σ1)), nJ p l e (rmX6_isListed (d + 1)) s m args below meth c 0 0 (MQ below (nQi D B r σ1 s.heap.size) args s 0 0 (nA B s.heap.size)) D B 5 20 [(0, .ref (na B 63)), (1, .int a1), (2, .int a2), (3, .int a3), (4, .int a4)] [] σ := by
    intro  n
    induction n with
    | zero => intro a1 a2 a3 a4 σ h; cases h
    | succ n ih =>
        intro a1 a2 a3 a4 σ h
        rw [fX6_isListed_b20] at h
        refine nx_iload C0 4 dX6_isListed_20 rfl ?_
        refine nx_iload_n C0 2 dX6_isListed_22 rfl ?_
        refine nx_icmp_ge (tgt := 80) C0 dX6_isListed_23 (by decide) (fun q => ?_) (fun q => ?_)
        · have h := nift q h
          refine nx_iconst (v := 0) C0 dX6_isListed_80 (by decide) ?_
          exact nr_z2 C0 hr (Or.inl rfl) dX6_isListed_81 h
        · have h := niff q h
          refine nx_iload C0 4 dX6_isListed_26 rfl ?_
          refine nx_iload_n C0 3 dX6_isListed_28 rfl ?_
          refine nx_icmp_gt (tgt := 80) C0 dX6_isListed_29 (by decide) (fun q => ?_) (fun q => ?_)
          · have h := nift q h
            refine nx_iconst (v := 0) C0 dX6_isListed_80 (by decide) ?_
            exact nr_z2 C0 hr (Or.inl rfl) dX6_isListed_81 h
          · have h := niff q h
            refine nx_aload_n C0 0 dX6_isListed_32 rfl ?_
            refine nx_gX6_list C0 hh0 hh1 dX6_isListed_33 ?_
            refine nx_iload_n C0 1 dX6_isListed_36 rfl ?_
            refine nx_iload C0 4 dX6_isListed_37 rfl ?_
            obtain ⟨g5, h⟩ := nguard h
            obtain ⟨t6, et6, h⟩ := nlet h
            refine nx_iast C0 nI_71 g5 dX6_isListed_39 et6 ?_
            refine nx_aload_n C0 0 dX6_isListed_40 rfl ?_
            refine nx_iload_n C0 1 dX6_isListed_41 rfl ?_
            obtain ⟨r8, c7, h⟩ := nbind h
            refine nx_cVi (ci := 6) (n := 1) (As := [.int a1]) (st := []) C0 (mX6_fitsList l D B hB a1 t6 c7) gX6_isListed_X6_fitsList rfl rfl rfl ndX6_fitsList ⟨by show _ ≤ (rmX6_isListed _).frames; simp only [rmX6_isListed, rmX6_fitsList]; omega, by show _ ≤ (rmX6_isListed _).locals; simp only [rmX6_isListed, rmX6_fitsList]; omega⟩ (by decide) rfl rfl rfl rfl (Nat.le_of_ble_eq_true rfl) rfl dX6_isListed_42 ?_
            refine nx_if_eq (tgt := 74) C0 dX6_isListed_45 (by decide) (fun q => ?_) (fun q => ?_)
            · have h := nift q h
              obtain ⟨v9, ev9, h⟩ := nlet h
              refine nx_iinc (v := v9) (lv' := [(4, .int v9), (0, .ref (na B 63)), (1, .int a1), (2, .int a2), (3, .int a3)]) C0 4 dX6_isListed_74 rfl ev9 (by decide) rfl ?_
              refine nx_goto (tgt := 20) C0 dX6_isListed_77 (by decide) ?_
              refine nx_lv (lv' := [(0, .ref (na B 63)), (1, .int a1), (2, .int a2), (3, .int a3), (4, .int v9)]) [1, 2, 3, 4, 0] rfl ?_
              exact ih a1 a2 a3 v9 t6 h
            · have h := niff q h
              refine nx_aload_n C0 0 dX6_isListed_48 rfl ?_
              refine nx_iload_n C0 1 dX6_isListed_49 rfl ?_
              refine nx_iconst (v := 1) C0 dX6_isListed_50 (by decide) ?_
              refine nx_iadd C0 dX6_isListed_51 ?_
              refine nx_iload_n C0 2 dX6_isListed_52 rfl ?_
              refine nx_iload C0 4 dX6_isListed_53 rfl ?_
              refine nx_iload_n C0 3 dX6_isListed_55 rfl ?_
              refine nx_icmp_ne (tgt := 65) C0 dX6_isListed_56 (by decide) (fun q => ?_) (fun q => ?_)
              · have h := niff q h
                refine nx_iload_n C0 3 dX6_isListed_65 rfl ?_
                exact hfX6_isListed_b66 (fX6_isListed_b20 rec n) ih a1 a2 a3 a4 a3 a2 (a1 + (1 : Int32)) t6 h
              · have h := nift q h
                refine nx_iload_n C0 3 dX6_isListed_59 rfl ?_
                refine nx_iconst (v := 1) C0 dX6_isListed_60 (by decide) ?_
                refine nx_iadd C0 dX6_isListed_61 ?_
                refine nx_goto (tgt := 66) C0 dX6_isListed_62 (by decide) ?_
                exact hfX6_isListed_b66 (fX6_isListed_b20 rec n) ih a1 a2 a3 a4 (a3 + (1 : Int32)) a2 (a1 + (1 : Int32)) t6 h
  refine nx_lv (lv' := [(0, .ref (na B 63)), (1, .int x1), (2, .int x2), (3, .int x3)]) [0, 1, 2, 3] rfl ?_
  rw [fX6_isListed_e] at h
  refine nx_iload_n C0 1 dX6_isListed_0 rfl ?_
  refine nx_bipush (v := 8) C0 dX6_isListed_1 (by decide) ?_
  refine nx_icmp_ne (tgt := 17) C0 dX6_isListed_3 (by decide) (fun q => ?_) (fun q => ?_)
  · have h := niff q h
    refine nx_iconst (v := 0) C0 dX6_isListed_17 (by decide) ?_
    refine nx_istore (i := 4) (y := (0 : Int32)) (lv' := [(4, .int (0 : Int32)), (0, .ref (na B 63)), (1, .int x1), (2, .int x2), (3, .int x3)]) C0 dX6_isListed_18 (by decide) rfl rfl ?_
    refine nx_lv (lv' := [(0, .ref (na B 63)), (1, .int x1), (2, .int x2), (3, .int x3), (4, .int (0 : Int32))]) [1, 2, 3, 4, 0] rfl ?_
    exact hfX6_isListed_b20 4096 x1 x2 x3 (0 : Int32) σ h
  · have h := nift q h
    refine nx_iload_n C0 3 dX6_isListed_6 rfl ?_
    refine nx_iload_n C0 2 dX6_isListed_7 rfl ?_
    refine nx_icmp_ne (tgt := 15) C0 dX6_isListed_8 (by decide) (fun q => ?_) (fun q => ?_)
    · have h := niff q h
      refine nx_iconst (v := 0) C0 dX6_isListed_15 (by decide) ?_
      exact nr_z2 C0 hr (Or.inl rfl) dX6_isListed_16 h
    · have h := nift q h
      refine nx_iconst (v := 1) C0 dX6_isListed_11 (by decide) ?_
      refine nx_goto (tgt := 16) C0 dX6_isListed_12 (by decide) ?_
      exact nr_z2 C0 hr (Or.inr rfl) dX6_isListed_16 h
