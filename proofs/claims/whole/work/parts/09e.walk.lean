def rmX6_mean : Room := { frames := 3, cells := 0, slots := 0, locals := 67 }
theorem ndX6_mean : yX6_mean.cls = RX6 ∧ yX6_mean.cls ≠ "java/lang/invoke/MethodHandle" ∧ yX6_mean.cls ≠ "java/lang/invoke/VarHandle" ∧ (parseMethodDescriptor yX6_mean.desc).map (fun d => d.parameters.length) = some 2 := by decide +kernel
set_option maxRecDepth 100000 in
set_option maxHeartbeats 4000000 in
theorem mX6_mean (l : Launch) (D : va_G) (B : nBT) (hB : nInj B) (x1 : Int32) (x2 : Int32) (σ : nS) {r : Int64}  (h : fX6_mean x1 x2 σ = some r) : nMl l D B yX6_mean wsX6_mean rmX6_mean [.ref (na B 63), .int x1, .int x2] σ r σ := by
  refine nmet (cc := cX6_mean) (maxL := 6) (ret := (some .long)) (own := RX6) (av := [.ref (na B 63), .int x1, .int x2]) (nQl D B r σ) hB (by decide) rfl rfl (Nat.le_of_ble_eq_true rfl) (fun p e s m args below meth c C0 hr => ?_)
  have hh0 : ∀ w ∈ wsX60, w ∈ wsX6_mean := by decide +kernel
  have hh1 := C0.2.2.2.2.1 (Cond.fieldLink RX6 9 "NotInTheCoinModel" "s" "[I") (by decide +kernel)
  have hh2 := C0.2.2.2.2.1 (Cond.constantLong RX6 213 (1000000001)) (by decide +kernel)
  have hfX6_mean_b26 : ∀  (n : Nat) (a1 : Int32) (a2 : Int32) (a3 : Int64) (a5 : Int32) (h : fX6_mean_b26  n a1 a2 a3 a5 σ = some r), nJ p l e rmX6_mean s m args below meth c 0 0 (MQ below (nQl D B r σ s.heap.size) args s 0 0 (nA B s.heap.size)) D B 6 26 [(0, .ref (na B 63)), (1, .int a1), (2, .int a2), (3, .long a3), (5, .int a5)] [] σ := by
    intro  n
    induction n with
    | zero => intro a1 a2 a3 a5 h; cases h
    | succ n ih =>
        intro a1 a2 a3 a5 h
        rw [fX6_mean_b26] at h
        refine nx_iload C0 4 dX6_mean_26 rfl ?_
        refine nx_aload_n C0 0 dX6_mean_28 rfl ?_
        refine nx_gX6_s C0 hh0 hh1 dX6_mean_29 ?_
        refine nx_iconst (v := 0) C0 dX6_mean_32 (by decide) ?_
        obtain ⟨g1, h⟩ := nguard h
        refine nx_iald C0 nI_64 g1 dX6_mean_33 ?_
        refine nx_icmp_ge (tgt := 57) C0 dX6_mean_34 (by decide) (fun q => ?_) (fun q => ?_)
        · have h := nift q h
          refine nx_lload_n C0 3 dX6_mean_57 rfl ?_
          refine nx_aload_n C0 0 dX6_mean_58 rfl ?_
          refine nx_gX6_s C0 hh0 hh1 dX6_mean_59 ?_
          refine nx_iconst (v := 0) C0 dX6_mean_62 (by decide) ?_
          obtain ⟨g2, h⟩ := nguard h
          refine nx_iald C0 nI_64 g2 dX6_mean_63 ?_
          refine nx_i2l C0 dX6_mean_64 ?_
          refine nx_iload_n C0 2 dX6_mean_65 rfl ?_
          obtain ⟨r4, c3, h⟩ := nbind h
          refine nx_cSl (n := 3) (As := [.long a3, .long (((σ 64 ((0 : Int32)).toNatClampNeg)).toInt64), .int a2]) (st := []) C0 (mX6_partOf l D B hB a3 (((σ 64 ((0 : Int32)).toNatClampNeg)).toInt64) a2 σ c3) gX6_mean_X6_partOf rfl rfl rfl ndX6_partOf ⟨Nat.le_of_ble_eq_true rfl, Nat.le_of_ble_eq_true rfl⟩ rfl (Nat.le_of_ble_eq_true rfl) rfl dX6_mean_66 ?_
          exact nr_l C0 hr dX6_mean_69 h
        · have h := niff q h
          refine nx_lload_n C0 3 dX6_mean_37 rfl ?_
          refine nx_aload_n C0 0 dX6_mean_38 rfl ?_
          refine nx_gX6_s C0 hh0 hh1 dX6_mean_39 ?_
          refine nx_iload_n C0 1 dX6_mean_42 rfl ?_
          refine nx_iload C0 4 dX6_mean_43 rfl ?_
          obtain ⟨r6, c5, h⟩ := nbind h
          refine nx_cSi (n := 3) (As := [.ref (na B 64), .int a1, .int a5]) (st := [.long a3]) C0 (mX6_worthIn l D B hB nR64 a1 a5 σ c5) gX6_mean_X6_worthIn rfl rfl rfl ndX6_worthIn ⟨Nat.le_of_ble_eq_true rfl, Nat.le_of_ble_eq_true rfl⟩ rfl (Nat.le_of_ble_eq_true rfl) rfl dX6_mean_45 ?_
          refine nx_i2l C0 dX6_mean_48 ?_
          refine nx_ladd C0 dX6_mean_49 ?_
          obtain ⟨v7, ev7, h⟩ := nlet h
          refine nx_lstore_n (i := 3) (y := v7) (lv' := [(3, .long v7), (0, .ref (na B 63)), (1, .int a1), (2, .int a2), (5, .int a5)]) C0 dX6_mean_50 rfl (by decide) ev7 rfl ?_
          obtain ⟨v8, ev8, h⟩ := nlet h
          refine nx_iinc (v := v8) (lv' := [(5, .int v8), (3, .long v7), (0, .ref (na B 63)), (1, .int a1), (2, .int a2)]) C0 4 dX6_mean_51 rfl ev8 (by decide) rfl ?_
          refine nx_goto (tgt := 26) C0 dX6_mean_54 (by decide) ?_
          refine nx_lv (lv' := [(0, .ref (na B 63)), (1, .int a1), (2, .int a2), (3, .long v7), (5, .int v8)]) [2, 3, 4, 1, 0] rfl ?_
          exact ih a1 a2 v7 v8 h
  refine nx_lv (lv' := [(0, .ref (na B 63)), (1, .int x1), (2, .int x2)]) [0, 1, 2] rfl ?_
  rw [fX6_mean] at h
  refine nx_aload_n C0 0 dX6_mean_0 rfl ?_
  refine nx_iload_n C0 1 dX6_mean_1 rfl ?_
  obtain ⟨r10, c9, h⟩ := nbind h
  refine nx_cVi (ci := 6) (n := 1) (As := [.int x1]) (st := []) C0 (mX6_isPerson l D B hB x1 σ c9) gX6_mean_X6_isPerson rfl rfl rfl ndX6_isPerson ⟨Nat.le_of_ble_eq_true rfl, Nat.le_of_ble_eq_true rfl⟩ (by decide) rfl rfl rfl rfl (Nat.le_of_ble_eq_true rfl) rfl dX6_mean_2 ?_
  refine nx_if_eq (tgt := 17) C0 dX6_mean_5 (by decide) (fun q => ?_) (fun q => ?_)
  · have h := nift q h
    refine nx_ldc2 (v := 1000000001) C0 dX6_mean_17 hh2 ?_
    exact nr_l C0 hr dX6_mean_20 h
  · have h := niff q h
    refine nx_iload_n C0 2 dX6_mean_8 rfl ?_
    refine nx_iconst (v := 0) C0 dX6_mean_9 (by decide) ?_
    refine nx_iconst (v := 1) C0 dX6_mean_10 (by decide) ?_
    obtain ⟨r12, c11, h⟩ := nbind h
    refine nx_cSi (n := 3) (As := [.int x2, .int (0 : Int32), .int (1 : Int32)]) (st := []) C0 (mX6_isIn l D B hB x2 (0 : Int32) (1 : Int32) σ c11) gX6_mean_X6_isIn rfl rfl rfl ndX6_isIn ⟨Nat.le_of_ble_eq_true rfl, Nat.le_of_ble_eq_true rfl⟩ rfl (Nat.le_of_ble_eq_true rfl) rfl dX6_mean_11 ?_
    refine nx_if_ne (tgt := 21) C0 dX6_mean_14 (by decide) (fun q => ?_) (fun q => ?_)
    · have h := niff q h
      refine nx_lconst (v := 0) C0 dX6_mean_21 (by decide) ?_
      refine nx_lstore_n (i := 3) (y := (0 : Int64)) (lv' := [(3, .long (0 : Int64)), (0, .ref (na B 63)), (1, .int x1), (2, .int x2)]) C0 dX6_mean_22 rfl (by decide) rfl rfl ?_
      refine nx_iconst (v := 0) C0 dX6_mean_23 (by decide) ?_
      refine nx_istore (i := 5) (y := (0 : Int32)) (lv' := [(5, .int (0 : Int32)), (3, .long (0 : Int64)), (0, .ref (na B 63)), (1, .int x1), (2, .int x2)]) C0 dX6_mean_24 (by decide) rfl rfl ?_
      refine nx_lv (lv' := [(0, .ref (na B 63)), (1, .int x1), (2, .int x2), (3, .long (0 : Int64)), (5, .int (0 : Int32))]) [2, 3, 4, 1, 0] rfl ?_
      exact hfX6_mean_b26 4096 x1 x2 (0 : Int64) (0 : Int32) h
    · have h := nift q h
      refine nx_ldc2 (v := 1000000001) C0 dX6_mean_17 hh2 ?_
      exact nr_l C0 hr dX6_mean_20 h
def rmX6_forged : Room := { frames := 4, cells := 0, slots := 0, locals := 90 }
theorem ndX6_forged : yX6_forged.cls = RX6 ∧ yX6_forged.cls ≠ "java/lang/invoke/MethodHandle" ∧ yX6_forged.cls ≠ "java/lang/invoke/VarHandle" ∧ (parseMethodDescriptor yX6_forged.desc).map (fun d => d.parameters.length) = some 2 := by decide +kernel
set_option maxRecDepth 100000 in
set_option maxHeartbeats 4000000 in
theorem mX6_forged (l : Launch) (D : va_G) (B : nBT) (hB : nInj B) (x1 : Int32) (x2 : Int32) (σ : nS) {r : Int32}  (h : fX6_forged x1 x2 σ = some r) : nMi l D B yX6_forged wsX6_forged rmX6_forged [.ref (na B 63), .int x1, .int x2] σ r σ := by
  refine nmet (cc := cX6_forged) (maxL := 5) (ret := (some .int)) (own := RX6) (av := [.ref (na B 63), .int x1, .int x2]) (nQi D B r σ) hB (by decide) rfl rfl (Nat.le_of_ble_eq_true rfl) (fun p e s m args below meth c C0 hr => ?_)
  have hh0 : ∀ w ∈ wsX60, w ∈ wsX6_forged := by decide +kernel
  have hh1 := C0.2.2.2.2.1 (Cond.fieldLink RX6 46 "NotInTheCoinModel" "size" "[I") (by decide +kernel)
  have hh2 := C0.2.2.2.2.1 (Cond.fieldLink RX6 49 "NotInTheCoinModel" "element" "[I") (by decide +kernel)
  have hh3 := C0.2.2.2.2.1 (Cond.fieldLink RX6 9 "NotInTheCoinModel" "s" "[I") (by decide +kernel)
  have hfX6_forged_b26 : ∀  (n : Nat) (a1 : Int32) (a2 : Int32) (a4 : Int32) (h : fX6_forged_b26  n a1 a2 a4 σ = some r), nJ p l e rmX6_forged s m args below meth c 0 0 (MQ below (nQi D B r σ s.heap.size) args s 0 0 (nA B s.heap.size)) D B 5 26 [(0, .ref (na B 63)), (1, .int a1), (2, .int a2), (4, .int a4)] [] σ := by
    intro  n
    induction n with
    | zero => intro a1 a2 a4 h; cases h
    | succ n ih =>
        intro a1 a2 a4 h
        rw [fX6_forged_b26] at h
        refine nx_iload C0 3 dX6_forged_26 rfl ?_
        refine nx_aload_n C0 0 dX6_forged_28 rfl ?_
        refine nx_gX6_size C0 hh0 hh1 dX6_forged_29 ?_
        refine nx_iload_n C0 1 dX6_forged_32 rfl ?_
        obtain ⟨g1, h⟩ := nguard h
        refine nx_iald C0 nI_76 g1 dX6_forged_33 ?_
        refine nx_icmp_ge (tgt := 107) C0 dX6_forged_34 (by decide) (fun q => ?_) (fun q => ?_)
        · have h := nift q h
          refine nx_bipush (v := -4) C0 dX6_forged_107 (by decide) ?_
          exact nr_i C0 hr dX6_forged_109 h
        · have h := niff q h
          refine nx_aload_n C0 0 dX6_forged_37 rfl ?_
          refine nx_aload_n C0 0 dX6_forged_38 rfl ?_
          refine nx_gX6_element C0 hh0 hh2 dX6_forged_39 ?_
          refine nx_bipush (v := 100) C0 dX6_forged_42 (by decide) ?_
          refine nx_iload_n C0 1 dX6_forged_44 rfl ?_
          refine nx_imul C0 dX6_forged_45 ?_
          refine nx_iload C0 3 dX6_forged_46 rfl ?_
          refine nx_iadd C0 dX6_forged_48 ?_
          obtain ⟨g2, h⟩ := nguard h
          refine nx_iald C0 nI_77 g2 dX6_forged_49 ?_
          obtain ⟨r4, c3, h⟩ := nbind h
          refine nx_cVi (ci := 6) (n := 1) (As := [.int (σ 77 ((((100 : Int32) * a1) + a4)).toNatClampNeg)]) (st := []) C0 (mX6_isGood l D B hB (σ 77 ((((100 : Int32) * a1) + a4)).toNatClampNeg) σ c3) gX6_forged_X6_isGood rfl rfl rfl ndX6_isGood ⟨Nat.le_of_ble_eq_true rfl, Nat.le_of_ble_eq_true rfl⟩ (by decide) rfl rfl rfl rfl (Nat.le_of_ble_eq_true rfl) rfl dX6_forged_50 ?_
          refine nx_if_eq (tgt := 98) C0 dX6_forged_53 (by decide) (fun q => ?_) (fun q => ?_)
          · have h := nift q h
            refine nx_iload C0 3 dX6_forged_98 rfl ?_
            exact nr_i C0 hr dX6_forged_100 h
          · have h := niff q h
            refine nx_iload C0 3 dX6_forged_56 rfl ?_
            refine nx_if_le (tgt := 101) C0 dX6_forged_58 (by decide) (fun q => ?_) (fun q => ?_)
            · have h := nift q h
              obtain ⟨v5, ev5, h⟩ := nlet h
              refine nx_iinc (v := v5) (lv' := [(4, .int v5), (0, .ref (na B 63)), (1, .int a1), (2, .int a2)]) C0 3 dX6_forged_101 rfl ev5 (by decide) rfl ?_
              refine nx_goto (tgt := 26) C0 dX6_forged_104 (by decide) ?_
              refine nx_lv (lv' := [(0, .ref (na B 63)), (1, .int a1), (2, .int a2), (4, .int v5)]) [1, 2, 3, 0] rfl ?_
              exact ih a1 a2 v5 h
            · have h := niff q h
              refine nx_aload_n C0 0 dX6_forged_61 rfl ?_
              refine nx_gX6_s C0 hh0 hh3 dX6_forged_62 ?_
              refine nx_iload_n C0 2 dX6_forged_65 rfl ?_
              refine nx_aload_n C0 0 dX6_forged_66 rfl ?_
              refine nx_gX6_element C0 hh0 hh2 dX6_forged_67 ?_
              refine nx_bipush (v := 100) C0 dX6_forged_70 (by decide) ?_
              refine nx_iload_n C0 1 dX6_forged_72 rfl ?_
              refine nx_imul C0 dX6_forged_73 ?_
              refine nx_iload C0 3 dX6_forged_74 rfl ?_
              refine nx_iadd C0 dX6_forged_76 ?_
              refine nx_iconst (v := 1) C0 dX6_forged_77 (by decide) ?_
              refine nx_isub C0 dX6_forged_78 ?_
              obtain ⟨g6, h⟩ := nguard h
              refine nx_iald C0 nI_77 g6 dX6_forged_79 ?_
              refine nx_aload_n C0 0 dX6_forged_80 rfl ?_
              refine nx_gX6_element C0 hh0 hh2 dX6_forged_81 ?_
              refine nx_bipush (v := 100) C0 dX6_forged_84 (by decide) ?_
              refine nx_iload_n C0 1 dX6_forged_86 rfl ?_
              refine nx_imul C0 dX6_forged_87 ?_
              refine nx_iload C0 3 dX6_forged_88 rfl ?_
              refine nx_iadd C0 dX6_forged_90 ?_
              obtain ⟨g7, h⟩ := nguard h
              refine nx_iald C0 nI_77 g7 dX6_forged_91 ?_
              obtain ⟨r9, c8, h⟩ := nbind h
              refine nx_cSi (n := 4) (As := [.ref (na B 64), .int a2, .int (σ 77 (((((100 : Int32) * a1) + a4) - (1 : Int32))).toNatClampNeg), .int (σ 77 ((((100 : Int32) * a1) + a4)).toNatClampNeg)]) (st := []) C0 (mX6_wouldIn l D B hB nR64 a2 (σ 77 (((((100 : Int32) * a1) + a4) - (1 : Int32))).toNatClampNeg) (σ 77 ((((100 : Int32) * a1) + a4)).toNatClampNeg) σ c8) gX6_forged_X6_wouldIn rfl rfl rfl ndX6_wouldIn ⟨Nat.le_of_ble_eq_true rfl, Nat.le_of_ble_eq_true rfl⟩ rfl (Nat.le_of_ble_eq_true rfl) rfl dX6_forged_92 ?_
              refine nx_if_ne (tgt := 101) C0 dX6_forged_95 (by decide) (fun q => ?_) (fun q => ?_)
              · have h := niff q h
                obtain ⟨v10, ev10, h⟩ := nlet h
                refine nx_iinc (v := v10) (lv' := [(4, .int v10), (0, .ref (na B 63)), (1, .int a1), (2, .int a2)]) C0 3 dX6_forged_101 rfl ev10 (by decide) rfl ?_
                refine nx_goto (tgt := 26) C0 dX6_forged_104 (by decide) ?_
                refine nx_lv (lv' := [(0, .ref (na B 63)), (1, .int a1), (2, .int a2), (4, .int v10)]) [1, 2, 3, 0] rfl ?_
                exact ih a1 a2 v10 h
              · have h := nift q h
                refine nx_iload C0 3 dX6_forged_98 rfl ?_
                exact nr_i C0 hr dX6_forged_100 h
  refine nx_lv (lv' := [(0, .ref (na B 63)), (1, .int x1), (2, .int x2)]) [0, 1, 2] rfl ?_
  rw [fX6_forged] at h
  refine nx_aload_n C0 0 dX6_forged_0 rfl ?_
  refine nx_iload_n C0 2 dX6_forged_1 rfl ?_
  obtain ⟨r12, c11, h⟩ := nbind h
  refine nx_cVi (ci := 6) (n := 1) (As := [.int x2]) (st := []) C0 (mX6_isPerson l D B hB x2 σ c11) gX6_forged_X6_isPerson rfl rfl rfl ndX6_isPerson ⟨Nat.le_of_ble_eq_true rfl, Nat.le_of_ble_eq_true rfl⟩ (by decide) rfl rfl rfl rfl (Nat.le_of_ble_eq_true rfl) rfl dX6_forged_2 ?_
  refine nx_if_ne (tgt := 10) C0 dX6_forged_5 (by decide) (fun q => ?_) (fun q => ?_)
  · have h := niff q h
    refine nx_aload_n C0 0 dX6_forged_10 rfl ?_
    refine nx_iload_n C0 1 dX6_forged_11 rfl ?_
    refine nx_iconst (v := -1) C0 dX6_forged_12 (by decide) ?_
    obtain ⟨r14, c13, h⟩ := nbind h
    refine nx_cVi (ci := 6) (n := 2) (As := [.int x1, .int (-1 : Int32)]) (st := []) C0 (mX6_wrongRow l D B hB x1 (-1 : Int32) σ c13) gX6_forged_X6_wrongRow rfl rfl rfl ndX6_wrongRow ⟨Nat.le_of_ble_eq_true rfl, Nat.le_of_ble_eq_true rfl⟩ (by decide) rfl rfl rfl rfl (Nat.le_of_ble_eq_true rfl) rfl dX6_forged_13 ?_
    refine nx_istore_n (i := 3) (y := r14) (lv' := [(3, .int r14), (0, .ref (na B 63)), (1, .int x1), (2, .int x2)]) C0 dX6_forged_16 rfl (by decide) rfl rfl ?_
    refine nx_iload_n C0 0 dX6_forged_17 rfl ?_
    refine nx_if_eq (tgt := 23) C0 dX6_forged_18 (by decide) (fun q => ?_) (fun q => ?_)
    · have h := nift q h
      refine nx_iconst (v := 0) C0 dX6_forged_23 (by decide) ?_
      refine nx_istore (i := 4) (y := (0 : Int32)) (lv' := [(4, .int (0 : Int32)), (3, .int r14), (0, .ref (na B 63)), (1, .int x1), (2, .int x2)]) C0 dX6_forged_24 (by decide) rfl rfl ?_
      refine nx_lv (lv' := [(0, .ref (na B 63)), (1, .int x1), (2, .int x2), (4, .int (0 : Int32))]) [2, 3, 4, 0] rfl ?_
      exact hfX6_forged_b26 4096 x1 x2 (0 : Int32) h
    · have h := niff q h
      refine nx_iload_n C0 0 dX6_forged_21 rfl ?_
      exact nr_i C0 hr dX6_forged_22 h
  · have h := nift q h
    refine nx_iconst (v := -1) C0 dX6_forged_8 (by decide) ?_
    exact nr_i C0 hr dX6_forged_9 h
def rmX6_judge : Room := { frames := 7, cells := 0, slots := 0, locals := 158 }
theorem ndX6_judge : yX6_judge.cls = RX6 ∧ yX6_judge.cls ≠ "java/lang/invoke/MethodHandle" ∧ yX6_judge.cls ≠ "java/lang/invoke/VarHandle" ∧ (parseMethodDescriptor yX6_judge.desc).map (fun d => d.parameters.length) = some 1 := by decide +kernel
set_option maxRecDepth 100000 in
set_option maxHeartbeats 4000000 in
theorem mX6_judge (l : Launch) (D : va_G) (B : nBT) (hB : nInj B) (x1 : Int32) (σ : nS) {r : Int32} {σ1 : nS} (h : fX6_judge x1 σ = some (r, σ1)) : nMi l D B yX6_judge wsX6_judge rmX6_judge [.ref (na B 63), .int x1] σ r σ1 := by
  refine nmet (cc := cX6_judge) (maxL := 5) (ret := (some .int)) (own := RX6) (av := [.ref (na B 63), .int x1]) (nQi D B r σ1) hB (by decide) rfl rfl (Nat.le_of_ble_eq_true rfl) (fun p e s m args below meth c C0 hr => ?_)
  have hh0 : ∀ w ∈ wsX60, w ∈ wsX6_judge := by decide +kernel
  have hh1 := C0.2.2.2.2.1 (Cond.fieldLink RX6 13 "NotInTheCoinModel" "m" "[I") (by decide +kernel)
  have hh2 := C0.2.2.2.2.1 (Cond.fieldLink RX6 46 "NotInTheCoinModel" "size" "[I") (by decide +kernel)
  have hh3 := C0.2.2.2.2.1 (Cond.fieldLink RX6 49 "NotInTheCoinModel" "element" "[I") (by decide +kernel)
  have hh4 := C0.2.2.2.2.1 (Cond.fieldLink RX6 43 "NotInTheCoinModel" "sort" "[I") (by decide +kernel)
  have hh5 := C0.2.2.2.2.1 (Cond.fieldLink RX6 9 "NotInTheCoinModel" "s" "[I") (by decide +kernel)
  have hfX6_judge_b80 : ∀ (s26 : Int32 → Int32 → nS → Option (Int32 × nS)) (hs26 : ∀ (a1 : Int32) (a3 : Int32) (σ : nS), s26 a1 a3 σ = some (r, σ1) → nJ p l e rmX6_judge s m args below meth c 0 0 (MQ below (nQi D B r σ1 s.heap.size) args s 0 0 (nA B s.heap.size)) D B 5 26 [(0, .ref (na B 63)), (1, .int a1), (3, .int a3)] [] σ) (a1 : Int32) (a3 : Int32) (σ : nS) (h : fX6_judge_b80 s26 a1 a3 σ = some (r, σ1)), nJ p l e rmX6_judge s m args below meth c 0 0 (MQ below (nQi D B r σ1 s.heap.size) args s 0 0 (nA B s.heap.size)) D B 5 80 [(0, .ref (na B 63)), (1, .int a1), (3, .int a3)] [] σ := by
    intro s26 hs26 a1 a3 σ h
    rw [fX6_judge_b80] at h
    refine nx_aload_n C0 0 dX6_judge_80 rfl ?_
    refine nx_gX6_m C0 hh0 hh1 dX6_judge_81 ?_
    obtain ⟨r2, t3, c1, h⟩ := nbind2 h
    refine nx_cSv (n := 1) (As := [.ref (na B 65)]) (st := []) C0 (mX6_week l D B hB nR65 σ c1) gX6_judge_X6_week rfl rfl rfl ndX6_week ⟨Nat.le_of_ble_eq_true rfl, Nat.le_of_ble_eq_true rfl⟩ rfl (Nat.le_of_ble_eq_true rfl) rfl dX6_judge_84 ?_
    obtain ⟨v4, ev4, h⟩ := nlet h
    refine nx_iinc (v := v4) (lv' := [(3, .int v4), (0, .ref (na B 63)), (1, .int a1)]) C0 2 dX6_judge_87 rfl ev4 (by decide) rfl ?_
    refine nx_goto (tgt := 26) C0 dX6_judge_90 (by decide) ?_
    refine nx_lv (lv' := [(0, .ref (na B 63)), (1, .int a1), (3, .int v4)]) [1, 2, 0] rfl ?_
    exact hs26 a1 v4 t3 h
  have hfX6_judge_b26 : ∀  (n : Nat) (a1 : Int32) (a3 : Int32) (σ : nS) (h : fX6_judge_b26  n a1 a3 σ = some (r, σ1)), nJ p l e rmX6_judge s m args below meth c 0 0 (MQ below (nQi D B r σ1 s.heap.size) args s 0 0 (nA B s.heap.size)) D B 5 26 [(0, .ref (na B 63)), (1, .int a1), (3, .int a3)] [] σ := by
    intro  n
    induction n with
    | zero => intro a1 a3 σ h; cases h
    | succ n ih =>
        intro a1 a3 σ h
        rw [fX6_judge_b26] at h
        refine nx_iload_n C0 2 dX6_judge_26 rfl ?_
        refine nx_aload_n C0 0 dX6_judge_27 rfl ?_
        refine nx_gX6_size C0 hh0 hh2 dX6_judge_28 ?_
        refine nx_iload_n C0 1 dX6_judge_31 rfl ?_
        obtain ⟨g5, h⟩ := nguard h
        refine nx_iald C0 nI_76 g5 dX6_judge_32 ?_
        refine nx_icmp_ge (tgt := 93) C0 dX6_judge_33 (by decide) (fun q => ?_) (fun q => ?_)
        · have h := nift q h
          refine nx_bipush (v := -4) C0 dX6_judge_93 (by decide) ?_
          exact nr_i2 C0 hr dX6_judge_95 h
        · have h := niff q h
          refine nx_aload_n C0 0 dX6_judge_36 rfl ?_
          refine nx_gX6_element C0 hh0 hh3 dX6_judge_37 ?_
          refine nx_bipush (v := 100) C0 dX6_judge_40 (by decide) ?_
          refine nx_iload_n C0 1 dX6_judge_42 rfl ?_
          refine nx_imul C0 dX6_judge_43 ?_
          refine nx_iload_n C0 2 dX6_judge_44 rfl ?_
          refine nx_iadd C0 dX6_judge_45 ?_
          obtain ⟨g6, h⟩ := nguard h
          refine nx_iald C0 nI_77 g6 dX6_judge_46 ?_
          obtain ⟨v7, ev7, h⟩ := nlet h
          refine nx_istore (i := 4) (y := v7) (lv' := [(4, .int v7), (0, .ref (na B 63)), (1, .int a1), (3, .int a3)]) C0 dX6_judge_47 (by decide) ev7 rfl ?_
          refine nx_iload C0 0 dX6_judge_49 rfl ?_
          refine nx_aload_n C0 1 dX6_judge_51 rfl ?_
          refine nx_gX6_sort C0 hh0 hh4 dX6_judge_52 ?_
          refine nx_iload_n C0 2 dX6_judge_55 rfl ?_
          obtain ⟨g8, h⟩ := nguard h
          refine nx_iald C0 nI_75 g8 dX6_judge_56 ?_
          obtain ⟨r10, c9, h⟩ := nbind h
          refine nx_cSi (n := 1) (As := [.int (σ 75 (a1).toNatClampNeg)]) (st := [.int v7]) C0 (mX6_leastOf l D B hB (σ 75 (a1).toNatClampNeg) σ c9) gX6_judge_X6_leastOf rfl rfl rfl ndX6_leastOf ⟨Nat.le_of_ble_eq_true rfl, Nat.le_of_ble_eq_true rfl⟩ rfl (Nat.le_of_ble_eq_true rfl) rfl dX6_judge_57 ?_
          refine nx_icmp_eq (tgt := 80) C0 dX6_judge_60 (by decide) (fun q => ?_) (fun q => ?_)
          · have h := nift q h
            refine nx_lv (lv' := [(0, .ref (na B 63)), (1, .int a1), (3, .int a3)]) [1, 2, 3] rfl ?_
            exact hfX6_judge_b80 (fX6_judge_b26 n) ih a1 a3 σ h
          · have h := niff q h
            refine nx_iload C0 0 dX6_judge_63 rfl ?_
            refine nx_aload_n C0 1 dX6_judge_65 rfl ?_
            refine nx_gX6_m C0 hh0 hh1 dX6_judge_66 ?_
            obtain ⟨r12, c11, h⟩ := nbind h
            refine nx_cSi (n := 1) (As := [.ref (na B 65)]) (st := [.int v7]) C0 (mX6_openIn l D B hB nR65 σ c11) gX6_judge_X6_openIn rfl rfl rfl ndX6_openIn ⟨Nat.le_of_ble_eq_true rfl, Nat.le_of_ble_eq_true rfl⟩ rfl (Nat.le_of_ble_eq_true rfl) rfl dX6_judge_69 ?_
            obtain ⟨r14, c13, h⟩ := nbind h
            refine nx_cSi (n := 1) (As := [.int r12]) (st := [.int v7]) C0 (mX6_bits l D B hB r12 σ c13) gX6_judge_X6_bits rfl rfl rfl ndX6_bits ⟨Nat.le_of_ble_eq_true rfl, Nat.le_of_ble_eq_true rfl⟩ rfl (Nat.le_of_ble_eq_true rfl) rfl dX6_judge_72 ?_
            refine nx_icmp_eq (tgt := 80) C0 dX6_judge_75 (by decide) (fun q => ?_) (fun q => ?_)
            · have h := nift q h
              refine nx_lv (lv' := [(0, .ref (na B 63)), (1, .int a1), (3, .int a3)]) [1, 2, 3] rfl ?_
              exact hfX6_judge_b80 (fX6_judge_b26 n) ih a1 a3 σ h
            · have h := niff q h
              refine nx_iload_n C0 3 dX6_judge_78 rfl ?_
              exact nr_i2 C0 hr dX6_judge_79 h
  refine nx_lv (lv' := [(0, .ref (na B 63)), (1, .int x1)]) [0, 1] rfl ?_
  rw [fX6_judge] at h
  refine nx_aload_n C0 0 dX6_judge_0 rfl ?_
  refine nx_iload_n C0 1 dX6_judge_1 rfl ?_
  refine nx_iconst (v := -1) C0 dX6_judge_2 (by decide) ?_
  obtain ⟨r16, c15, h⟩ := nbind h
  refine nx_cVi (ci := 6) (n := 2) (As := [.int x1, .int (-1 : Int32)]) (st := []) C0 (mX6_wrongRow l D B hB x1 (-1 : Int32) σ c15) gX6_judge_X6_wrongRow rfl rfl rfl ndX6_wrongRow ⟨Nat.le_of_ble_eq_true rfl, Nat.le_of_ble_eq_true rfl⟩ (by decide) rfl rfl rfl rfl (Nat.le_of_ble_eq_true rfl) rfl dX6_judge_3 ?_
  refine nx_istore_n (i := 2) (y := r16) (lv' := [(2, .int r16), (0, .ref (na B 63)), (1, .int x1)]) C0 dX6_judge_6 rfl (by decide) rfl rfl ?_
  refine nx_iload_n C0 0 dX6_judge_7 rfl ?_
  refine nx_if_eq (tgt := 13) C0 dX6_judge_8 (by decide) (fun q => ?_) (fun q => ?_)
  · have h := nift q h
    refine nx_aload_n C0 1 dX6_judge_13 rfl ?_
    refine nx_gX6_s C0 hh0 hh5 dX6_judge_14 ?_
    refine nx_aload_n C0 1 dX6_judge_17 rfl ?_
    refine nx_gX6_m C0 hh0 hh1 dX6_judge_18 ?_
    obtain ⟨r18, t19, c17, h⟩ := nbind2 h
    refine nx_cSv (n := 2) (As := [.ref (na B 64), .ref (na B 65)]) (st := []) C0 (mX6_copies l D B hB nR64 nR65 σ c17) gX6_judge_X6_copies rfl rfl rfl ndX6_copies ⟨Nat.le_of_ble_eq_true rfl, Nat.le_of_ble_eq_true rfl⟩ rfl (Nat.le_of_ble_eq_true rfl) rfl dX6_judge_21 ?_
    refine nx_iconst (v := 0) C0 dX6_judge_24 (by decide) ?_
    refine nx_istore_n (i := 3) (y := (0 : Int32)) (lv' := [(3, .int (0 : Int32)), (2, .int r16), (0, .ref (na B 63)), (1, .int x1)]) C0 dX6_judge_25 rfl (by decide) rfl rfl ?_
    refine nx_lv (lv' := [(0, .ref (na B 63)), (1, .int x1), (3, .int (0 : Int32))]) [2, 3, 0] rfl ?_
    exact hfX6_judge_b26 4096 x1 (0 : Int32) t19 h
  · have h := niff q h
    refine nx_iload_n C0 0 dX6_judge_11 rfl ?_
    exact nr_i2 C0 hr dX6_judge_12 h
def rmX6_drawn : Room := { frames := 0, cells := 0, slots := 0, locals := 0 }
theorem ndX6_drawn : yX6_drawn.cls = RX6 ∧ yX6_drawn.cls ≠ "java/lang/invoke/MethodHandle" ∧ yX6_drawn.cls ≠ "java/lang/invoke/VarHandle" ∧ (parseMethodDescriptor yX6_drawn.desc).map (fun d => d.parameters.length) = some 1 := by decide +kernel
set_option maxRecDepth 100000 in
set_option maxHeartbeats 4000000 in
theorem mX6_drawn (l : Launch) (D : va_G) (B : nBT) (hB : nInj B) (x1 : Int32) (σ : nS) {r : Int32} {σ1 : nS} (h : fX6_drawn x1 σ = some (r, σ1)) : nMi l D B yX6_drawn wsX6_drawn rmX6_drawn [.ref (na B 63), .int x1] σ r σ1 := by
  refine nmet (cc := cX6_drawn) (maxL := 2) (ret := (some .int)) (own := RX6) (av := [.ref (na B 63), .int x1]) (nQi D B r σ1) hB (by decide) rfl rfl (Nat.le_of_ble_eq_true rfl) (fun p e s m args below meth c C0 hr => ?_)
  have hh0 : ∀ w ∈ wsX60, w ∈ wsX6_drawn := by decide +kernel
  have hh1 := C0.2.2.2.2.1 (Cond.fieldLink RX6 219 "NotInTheCoinModel" "seed" "I") (by decide +kernel)
  have hh2 := C0.2.2.2.2.1 (Cond.constant RX6 222 (1103515245)) (by decide +kernel)
  have hh3 := C0.2.2.2.2.1 (Cond.constant RX6 223 (2147483647)) (by decide +kernel)
  have hh4 := C0.2.2.2.2.1 (Cond.constant RX6 224 (65536)) (by decide +kernel)
  refine nx_lv (lv' := [(0, .ref (na B 63)), (1, .int x1)]) [0, 1] rfl ?_
  rw [fX6_drawn] at h
  refine nx_aload_n C0 0 dX6_drawn_0 rfl ?_
  refine nx_aload_n C0 0 dX6_drawn_1 rfl ?_
  refine nx_gX6_seed C0 hh0 hh1 dX6_drawn_2 ?_
  refine nx_ldc (v := 1103515245) C0 dX6_drawn_5 hh2 ?_
  refine nx_imul C0 dX6_drawn_7 ?_
  refine nx_sipush (v := 12345) C0 dX6_drawn_8 (by decide) ?_
  refine nx_iadd C0 dX6_drawn_11 ?_
  obtain ⟨t1, et1, h⟩ := nlet h
  refine nx_pX6_seed C0 hh0 hh1 dX6_drawn_12 et1 ?_
  refine nx_aload_n C0 0 dX6_drawn_15 rfl ?_
  refine nx_gX6_seed C0 hh0 hh1 dX6_drawn_16 ?_
  refine nx_ldc (v := 2147483647) C0 dX6_drawn_19 hh3 ?_
  refine nx_iand C0 dX6_drawn_21 ?_
  refine nx_ldc (v := 65536) C0 dX6_drawn_22 hh4 ?_
  refine nx_idiv C0 dX6_drawn_24 (by decide) ?_
  refine nx_iload_n C0 1 dX6_drawn_25 rfl ?_
  obtain ⟨g2, h⟩ := nguard h
  refine nx_irem C0 dX6_drawn_26 g2 ?_
  exact nr_i2 C0 hr dX6_drawn_27 h
def rmX6_quarrelsIn : Room := { frames := 4, cells := 0, slots := 0, locals := 92 }
theorem ndX6_quarrelsIn : yX6_quarrelsIn.cls ≠ "java/lang/invoke/MethodHandle" ∧ yX6_quarrelsIn.cls ≠ "java/lang/invoke/VarHandle" ∧ (parseMethodDescriptor yX6_quarrelsIn.desc).map (fun d => d.parameters.length) = some 1 := by decide +kernel
set_option maxRecDepth 100000 in
set_option maxHeartbeats 4000000 in
theorem mX6_quarrelsIn (l : Launch) (D : va_G) (B : nBT) (hB : nInj B) {k0 : Nat} (hk0 : nR k0) (σ : nS) {r : Int32}  (h : fX6_quarrelsIn k0 σ = some r) : nMi l D B yX6_quarrelsIn wsX6_quarrelsIn rmX6_quarrelsIn [.ref (na B k0)] σ r σ := by
  refine nmet (cc := cX6_quarrelsIn) (maxL := 4) (ret := (some .int)) (own := RX6) (av := [.ref (na B k0)]) (nQi D B r σ) hB (by decide) rfl rfl (Nat.le_of_ble_eq_true rfl) (fun p e s m args below meth c C0 hr => ?_)
  have hfX6_quarrelsIn_b15 : ∀ (s4 : Nat → Int32 → Int32 → nS → Option Int32) (hs4 : ∀ (k_0 : Nat) (hk_0 : nR k_0) (a1 : Int32) (a2 : Int32), s4 k_0 a1 a2 σ = some r → nJ p l e rmX6_quarrelsIn s m args below meth c 0 0 (MQ below (nQi D B r σ s.heap.size) args s 0 0 (nA B s.heap.size)) D B 4 4 [(0, .ref (na B k_0)), (1, .int a1), (2, .int a2)] [] σ) (n : Nat) (k_0 : Nat) (hk_0 : nR k_0) (a1 : Int32) (a2 : Int32) (a3 : Int32) (h : fX6_quarrelsIn_b15 s4 n k_0 a1 a2 a3 σ = some r), nJ p l e rmX6_quarrelsIn s m args below meth c 0 0 (MQ below (nQi D B r σ s.heap.size) args s 0 0 (nA B s.heap.size)) D B 4 15 [(0, .ref (na B k_0)), (1, .int a1), (2, .int a2), (3, .int a3)] [] σ := by
    intro s4 hs4 n
    induction n with
    | zero => intro k_0 hk_0 a1 a2 a3 h; cases h
    | succ n ih =>
        intro k_0 hk_0 a1 a2 a3 h
        rw [fX6_quarrelsIn_b15] at h
        refine nx_iload_n C0 3 dX6_quarrelsIn_15 rfl ?_
        refine nx_aload_n C0 0 dX6_quarrelsIn_16 rfl ?_
        refine nx_iconst (v := 0) C0 dX6_quarrelsIn_17 (by decide) ?_
        obtain ⟨g1, h⟩ := nguard h
        refine nx_iald C0 (nR_c hk_0) g1 dX6_quarrelsIn_18 ?_
        refine nx_icmp_ge (tgt := 37) C0 dX6_quarrelsIn_19 (by decide) (fun q => ?_) (fun q => ?_)
        · have h := nift q h
          obtain ⟨v2, ev2, h⟩ := nlet h
          refine nx_iinc (v := v2) (lv' := [(2, .int v2), (0, .ref (na B k_0)), (1, .int a1), (3, .int a3)]) C0 2 dX6_quarrelsIn_37 rfl ev2 (by decide) rfl ?_
          refine nx_goto (tgt := 4) C0 dX6_quarrelsIn_40 (by decide) ?_
          refine nx_lv (lv' := [(0, .ref (na B k_0)), (1, .int a1), (2, .int v2)]) [1, 2, 0] rfl ?_
          exact hs4 k_0 hk_0 a1 v2 h
        · have h := niff q h
          refine nx_iload_n C0 1 dX6_quarrelsIn_22 rfl ?_
          refine nx_aload_n C0 0 dX6_quarrelsIn_23 rfl ?_
          refine nx_iload_n C0 2 dX6_quarrelsIn_24 rfl ?_
          refine nx_iload_n C0 3 dX6_quarrelsIn_25 rfl ?_
          obtain ⟨r4, c3, h⟩ := nbind h
          refine nx_cSi (n := 3) (As := [.ref (na B k_0), .int a2, .int a3]) (st := [.int a1]) C0 (mX6_quarrelIn l D B hB hk_0 a2 a3 σ c3) gX6_quarrelsIn_X6_quarrelIn rfl rfl rfl ndX6_quarrelIn ⟨Nat.le_of_ble_eq_true rfl, Nat.le_of_ble_eq_true rfl⟩ rfl (Nat.le_of_ble_eq_true rfl) rfl dX6_quarrelsIn_26 ?_
          refine nx_iadd C0 dX6_quarrelsIn_29 ?_
          obtain ⟨v5, ev5, h⟩ := nlet h
          refine nx_istore_n (i := 1) (y := v5) (lv' := [(1, .int v5), (0, .ref (na B k_0)), (2, .int a2), (3, .int a3)]) C0 dX6_quarrelsIn_30 rfl (by decide) ev5 rfl ?_
          obtain ⟨v6, ev6, h⟩ := nlet h
          refine nx_iinc (v := v6) (lv' := [(3, .int v6), (1, .int v5), (0, .ref (na B k_0)), (2, .int a2)]) C0 3 dX6_quarrelsIn_31 rfl ev6 (by decide) rfl ?_
          refine nx_goto (tgt := 15) C0 dX6_quarrelsIn_34 (by decide) ?_
          refine nx_lv (lv' := [(0, .ref (na B k_0)), (1, .int v5), (2, .int a2), (3, .int v6)]) [2, 1, 3, 0] rfl ?_
          exact ih k_0 hk_0 v5 a2 v6 h
  have hfX6_quarrelsIn_b4 : ∀  (n : Nat) (k_0 : Nat) (hk_0 : nR k_0) (a1 : Int32) (a2 : Int32) (h : fX6_quarrelsIn_b4  n k_0 a1 a2 σ = some r), nJ p l e rmX6_quarrelsIn s m args below meth c 0 0 (MQ below (nQi D B r σ s.heap.size) args s 0 0 (nA B s.heap.size)) D B 4 4 [(0, .ref (na B k_0)), (1, .int a1), (2, .int a2)] [] σ := by
    intro  n
    induction n with
    | zero => intro k_0 hk_0 a1 a2 h; cases h
    | succ n ih =>
        intro k_0 hk_0 a1 a2 h
        rw [fX6_quarrelsIn_b4] at h
        refine nx_iload_n C0 2 dX6_quarrelsIn_4 rfl ?_
        refine nx_aload_n C0 0 dX6_quarrelsIn_5 rfl ?_
        refine nx_iconst (v := 0) C0 dX6_quarrelsIn_6 (by decide) ?_
        obtain ⟨g7, h⟩ := nguard h
        refine nx_iald C0 (nR_c hk_0) g7 dX6_quarrelsIn_7 ?_
        refine nx_icmp_ge (tgt := 43) C0 dX6_quarrelsIn_8 (by decide) (fun q => ?_) (fun q => ?_)
        · have h := nift q h
          refine nx_iload_n C0 1 dX6_quarrelsIn_43 rfl ?_
          exact nr_i C0 hr dX6_quarrelsIn_44 h
        · have h := niff q h
          refine nx_iload_n C0 2 dX6_quarrelsIn_11 rfl ?_
          refine nx_iconst (v := 1) C0 dX6_quarrelsIn_12 (by decide) ?_
          refine nx_iadd C0 dX6_quarrelsIn_13 ?_
          obtain ⟨v8, ev8, h⟩ := nlet h
          refine nx_istore_n (i := 3) (y := v8) (lv' := [(3, .int v8), (0, .ref (na B k_0)), (1, .int a1), (2, .int a2)]) C0 dX6_quarrelsIn_14 rfl (by decide) ev8 rfl ?_
          refine nx_lv (lv' := [(0, .ref (na B k_0)), (1, .int a1), (2, .int a2), (3, .int v8)]) [1, 2, 3, 0] rfl ?_
          exact hfX6_quarrelsIn_b15 (fX6_quarrelsIn_b4 n) ih 4096 k_0 hk_0 a1 a2 v8 h
  refine nx_lv (lv' := [(0, .ref (na B k0))]) [0] rfl ?_
  rw [fX6_quarrelsIn] at h
  refine nx_iconst (v := 0) C0 dX6_quarrelsIn_0 (by decide) ?_
  refine nx_istore_n (i := 1) (y := (0 : Int32)) (lv' := [(1, .int (0 : Int32)), (0, .ref (na B k0))]) C0 dX6_quarrelsIn_1 rfl (by decide) rfl rfl ?_
  refine nx_iconst (v := 0) C0 dX6_quarrelsIn_2 (by decide) ?_
  refine nx_istore_n (i := 2) (y := (0 : Int32)) (lv' := [(2, .int (0 : Int32)), (1, .int (0 : Int32)), (0, .ref (na B k0))]) C0 dX6_quarrelsIn_3 rfl (by decide) rfl rfl ?_
  refine nx_lv (lv' := [(0, .ref (na B k0)), (1, .int (0 : Int32)), (2, .int (0 : Int32))]) [2, 1, 0] rfl ?_
  exact hfX6_quarrelsIn_b4 4096 k0 hk0 (0 : Int32) (0 : Int32) h
def rmX6_richesAll : Room := { frames := 4, cells := 0, slots := 0, locals := 90 }
theorem ndX6_richesAll : yX6_richesAll.cls ≠ "java/lang/invoke/MethodHandle" ∧ yX6_richesAll.cls ≠ "java/lang/invoke/VarHandle" ∧ (parseMethodDescriptor yX6_richesAll.desc).map (fun d => d.parameters.length) = some 1 := by decide +kernel
set_option maxRecDepth 100000 in
set_option maxHeartbeats 4000000 in
theorem mX6_richesAll (l : Launch) (D : va_G) (B : nBT) (hB : nInj B) {k0 : Nat} (hk0 : nR k0) (σ : nS) {r : Int32}  (h : fX6_richesAll k0 σ = some r) : nMi l D B yX6_richesAll wsX6_richesAll rmX6_richesAll [.ref (na B k0)] σ r σ := by
  refine nmet (cc := cX6_richesAll) (maxL := 3) (ret := (some .int)) (own := RX6) (av := [.ref (na B k0)]) (nQi D B r σ) hB (by decide) rfl rfl (Nat.le_of_ble_eq_true rfl) (fun p e s m args below meth c C0 hr => ?_)
  have hfX6_richesAll_b4 : ∀  (n : Nat) (k_0 : Nat) (hk_0 : nR k_0) (a1 : Int32) (a2 : Int32) (h : fX6_richesAll_b4  n k_0 a1 a2 σ = some r), nJ p l e rmX6_richesAll s m args below meth c 0 0 (MQ below (nQi D B r σ s.heap.size) args s 0 0 (nA B s.heap.size)) D B 3 4 [(0, .ref (na B k_0)), (1, .int a1), (2, .int a2)] [] σ := by
    intro  n
    induction n with
    | zero => intro k_0 hk_0 a1 a2 h; cases h
    | succ n ih =>
        intro k_0 hk_0 a1 a2 h
        rw [fX6_richesAll_b4] at h
        refine nx_iload_n C0 2 dX6_richesAll_4 rfl ?_
        refine nx_aload_n C0 0 dX6_richesAll_5 rfl ?_
        refine nx_iconst (v := 1) C0 dX6_richesAll_6 (by decide) ?_
        obtain ⟨g1, h⟩ := nguard h
        refine nx_iald C0 (nR_c hk_0) g1 dX6_richesAll_7 ?_
        refine nx_icmp_ge (tgt := 25) C0 dX6_richesAll_8 (by decide) (fun q => ?_) (fun q => ?_)
        · have h := nift q h
          refine nx_iload_n C0 1 dX6_richesAll_25 rfl ?_
          exact nr_i C0 hr dX6_richesAll_26 h
        · have h := niff q h
          refine nx_iload_n C0 1 dX6_richesAll_11 rfl ?_
          refine nx_aload_n C0 0 dX6_richesAll_12 rfl ?_
          refine nx_iload_n C0 2 dX6_richesAll_13 rfl ?_
          obtain ⟨r3, c2, h⟩ := nbind h
          refine nx_cSi (n := 2) (As := [.ref (na B k_0), .int a2]) (st := [.int a1]) C0 (mX6_richesOf l D B hB hk_0 a2 σ c2) gX6_richesAll_X6_richesOf rfl rfl rfl ndX6_richesOf ⟨Nat.le_of_ble_eq_true rfl, Nat.le_of_ble_eq_true rfl⟩ rfl (Nat.le_of_ble_eq_true rfl) rfl dX6_richesAll_14 ?_
          refine nx_iadd C0 dX6_richesAll_17 ?_
          obtain ⟨v4, ev4, h⟩ := nlet h
          refine nx_istore_n (i := 1) (y := v4) (lv' := [(1, .int v4), (0, .ref (na B k_0)), (2, .int a2)]) C0 dX6_richesAll_18 rfl (by decide) ev4 rfl ?_
          obtain ⟨v5, ev5, h⟩ := nlet h
          refine nx_iinc (v := v5) (lv' := [(2, .int v5), (1, .int v4), (0, .ref (na B k_0))]) C0 2 dX6_richesAll_19 rfl ev5 (by decide) rfl ?_
          refine nx_goto (tgt := 4) C0 dX6_richesAll_22 (by decide) ?_
          refine nx_lv (lv' := [(0, .ref (na B k_0)), (1, .int v4), (2, .int v5)]) [2, 1, 0] rfl ?_
          exact ih k_0 hk_0 v4 v5 h
  refine nx_lv (lv' := [(0, .ref (na B k0))]) [0] rfl ?_
  rw [fX6_richesAll] at h
  refine nx_iconst (v := 0) C0 dX6_richesAll_0 (by decide) ?_
  refine nx_istore_n (i := 1) (y := (0 : Int32)) (lv' := [(1, .int (0 : Int32)), (0, .ref (na B k0))]) C0 dX6_richesAll_1 rfl (by decide) rfl rfl ?_
  refine nx_iconst (v := 0) C0 dX6_richesAll_2 (by decide) ?_
  refine nx_istore_n (i := 2) (y := (0 : Int32)) (lv' := [(2, .int (0 : Int32)), (1, .int (0 : Int32)), (0, .ref (na B k0))]) C0 dX6_richesAll_3 rfl (by decide) rfl rfl ?_
  refine nx_lv (lv' := [(0, .ref (na B k0)), (1, .int (0 : Int32)), (2, .int (0 : Int32))]) [2, 1, 0] rfl ?_
  exact hfX6_richesAll_b4 4096 k0 hk0 (0 : Int32) (0 : Int32) h
def rmX6_towns : Room := { frames := 5, cells := 0, slots := 0, locals := 115 }
theorem ndX6_towns : yX6_towns.cls = RX6 ∧ yX6_towns.cls ≠ "java/lang/invoke/MethodHandle" ∧ yX6_towns.cls ≠ "java/lang/invoke/VarHandle" ∧ (parseMethodDescriptor yX6_towns.desc).map (fun d => d.parameters.length) = some 3 := by decide +kernel
set_option maxRecDepth 100000 in
set_option maxHeartbeats 4000000 in
theorem mX6_towns (l : Launch) (D : va_G) (B : nBT) (hB : nInj B) (x1 : Int32) (x2 : Int32) (x3 : Int32) (σ : nS) {r : Int32} {σ1 : nS} (h : fX6_towns x1 x2 x3 σ = some (r, σ1)) : nMi l D B yX6_towns wsX6_towns rmX6_towns [.ref (na B 63), .int x1, .int x2, .int x3] σ r σ1 := by
  refine nmet (cc := cX6_towns) (maxL := 7) (ret := (some .int)) (own := RX6) (av := [.ref (na B 63), .int x1, .int x2, .int x3]) (nQi D B r σ1) hB (by decide) rfl rfl (Nat.le_of_ble_eq_true rfl) (fun p e s m args below meth c C0 hr => ?_)
  have hh0 : ∀ w ∈ wsX60, w ∈ wsX6_towns := by decide +kernel
  have hh1 := C0.2.2.2.2.1 (Cond.fieldLink RX6 9 "NotInTheCoinModel" "s" "[I") (by decide +kernel)
  have hh2 := C0.2.2.2.2.1 (Cond.fieldLink RX6 13 "NotInTheCoinModel" "m" "[I") (by decide +kernel)
  have hh3 := C0.2.2.2.2.1 (Cond.fieldLink RX6 219 "NotInTheCoinModel" "seed" "I") (by decide +kernel)
  have hfX6_towns_b106 : ∀ (s44 : Int32 → Int32 → Int32 → Int32 → nS → Option (Int32 × nS)) (hs44 : ∀ (a1 : Int32) (a3 : Int32) (a4 : Int32) (a5 : Int32) (σ : nS), s44 a1 a3 a4 a5 σ = some (r, σ1) → nJ p l e rmX6_towns s m args below meth c 0 0 (MQ below (nQi D B r σ1 s.heap.size) args s 0 0 (nA B s.heap.size)) D B 7 44 [(0, .ref (na B 63)), (1, .int a1), (3, .int a3), (4, .int a4), (5, .int a5)] [] σ) (n : Nat) (a1 : Int32) (a3 : Int32) (a4 : Int32) (a5 : Int32) (a6 : Int32) (σ : nS) (h : fX6_towns_b106 s44 n a1 a3 a4 a5 a6 σ = some (r, σ1)), nJ p l e rmX6_towns s m args below meth c 0 0 (MQ below (nQi D B r σ1 s.heap.size) args s 0 0 (nA B s.heap.size)) D B 7 106 [(0, .ref (na B 63)), (1, .int a1), (3, .int a3), (4, .int a4), (5, .int a5), (6, .int a6)] [] σ := by
    intro s44 hs44 n
    induction n with
    | zero => intro a1 a3 a4 a5 a6 σ h; cases h
    | succ n ih =>
        intro a1 a3 a4 a5 a6 σ h
        rw [fX6_towns_b106] at h
        refine nx_iload C0 5 dX6_towns_106 rfl ?_
        refine nx_aload_n C0 0 dX6_towns_108 rfl ?_
        refine nx_gX6_s C0 hh0 hh1 dX6_towns_109 ?_
        refine nx_iconst (v := 1) C0 dX6_towns_112 (by decide) ?_
        obtain ⟨g1, h⟩ := nguard h
        refine nx_iald C0 nI_64 g1 dX6_towns_113 ?_
        refine nx_icmp_ge (tgt := 139) C0 dX6_towns_114 (by decide) (fun q => ?_) (fun q => ?_)
        · have h := nift q h
          refine nx_iload C0 3 dX6_towns_139 rfl ?_
          refine nx_iload_n C0 2 dX6_towns_141 rfl ?_
          refine nx_if_ne (tgt := 155) C0 dX6_towns_142 (by decide) (fun q => ?_) (fun q => ?_)
          · have h := niff q h
            refine nx_aload_n C0 0 dX6_towns_155 rfl ?_
            refine nx_gX6_m C0 hh0 hh2 dX6_towns_156 ?_
            obtain ⟨r3, c2, h⟩ := nbind h
            refine nx_cSi (n := 1) (As := [.ref (na B 65)]) (st := [.int a4]) C0 (mX6_richesAll l D B hB nR65 σ c2) gX6_towns_X6_richesAll rfl rfl rfl ndX6_richesAll ⟨Nat.le_of_ble_eq_true rfl, Nat.le_of_ble_eq_true rfl⟩ rfl (Nat.le_of_ble_eq_true rfl) rfl dX6_towns_159 ?_
            refine nx_iadd C0 dX6_towns_162 ?_
            obtain ⟨v4, ev4, h⟩ := nlet h
            refine nx_istore (i := 4) (y := v4) (lv' := [(4, .int v4), (0, .ref (na B 63)), (1, .int a1), (3, .int a3), (5, .int a5), (6, .int a6)]) C0 dX6_towns_163 (by decide) ev4 rfl ?_
            obtain ⟨v5, ev5, h⟩ := nlet h
            refine nx_iinc (v := v5) (lv' := [(5, .int v5), (4, .int v4), (0, .ref (na B 63)), (1, .int a1), (3, .int a3), (6, .int a6)]) C0 4 dX6_towns_165 rfl ev5 (by decide) rfl ?_
            refine nx_goto (tgt := 44) C0 dX6_towns_168 (by decide) ?_
            refine nx_lv (lv' := [(0, .ref (na B 63)), (1, .int a1), (3, .int a3), (4, .int v4), (5, .int v5)]) [2, 3, 4, 1, 0] rfl ?_
            exact hs44 a1 a3 v4 v5 σ h
          · have h := nift q h
            refine nx_aload_n C0 0 dX6_towns_145 rfl ?_
            refine nx_gX6_m C0 hh0 hh2 dX6_towns_146 ?_
            obtain ⟨r7, c6, h⟩ := nbind h
            refine nx_cSi (n := 1) (As := [.ref (na B 65)]) (st := [.int a4]) C0 (mX6_quarrelsIn l D B hB nR65 σ c6) gX6_towns_X6_quarrelsIn rfl rfl rfl ndX6_quarrelsIn ⟨Nat.le_of_ble_eq_true rfl, Nat.le_of_ble_eq_true rfl⟩ rfl (Nat.le_of_ble_eq_true rfl) rfl dX6_towns_149 ?_
            refine nx_goto (tgt := 162) C0 dX6_towns_152 (by decide) ?_
            refine nx_iadd C0 dX6_towns_162 ?_
            obtain ⟨v8, ev8, h⟩ := nlet h
            refine nx_istore (i := 4) (y := v8) (lv' := [(4, .int v8), (0, .ref (na B 63)), (1, .int a1), (3, .int a3), (5, .int a5), (6, .int a6)]) C0 dX6_towns_163 (by decide) ev8 rfl ?_
            obtain ⟨v9, ev9, h⟩ := nlet h
            refine nx_iinc (v := v9) (lv' := [(5, .int v9), (4, .int v8), (0, .ref (na B 63)), (1, .int a1), (3, .int a3), (6, .int a6)]) C0 4 dX6_towns_165 rfl ev9 (by decide) rfl ?_
            refine nx_goto (tgt := 44) C0 dX6_towns_168 (by decide) ?_
            refine nx_lv (lv' := [(0, .ref (na B 63)), (1, .int a1), (3, .int a3), (4, .int v8), (5, .int v9)]) [2, 3, 4, 1, 0] rfl ?_
            exact hs44 a1 a3 v8 v9 σ h
        · have h := niff q h
          refine nx_aload_n C0 0 dX6_towns_117 rfl ?_
          refine nx_gX6_m C0 hh0 hh2 dX6_towns_118 ?_
          refine nx_bipush (v := 28) C0 dX6_towns_121 (by decide) ?_
          refine nx_iload C0 5 dX6_towns_123 rfl ?_
          refine nx_iadd C0 dX6_towns_125 ?_
          refine nx_aload_n C0 0 dX6_towns_126 rfl ?_
          refine nx_bipush (v := 10) C0 dX6_towns_127 (by decide) ?_
          obtain ⟨r11, t12, c10, h⟩ := nbind2 h
          refine nx_cVi (ci := 6) (n := 1) (As := [.int (10 : Int32)]) (st := [.int ((28 : Int32) + a6), .ref (na B 65)]) C0 (mX6_drawn l D B hB (10 : Int32) σ c10) gX6_towns_X6_drawn rfl rfl rfl ndX6_drawn ⟨Nat.le_of_ble_eq_true rfl, Nat.le_of_ble_eq_true rfl⟩ (by decide) rfl rfl rfl rfl (Nat.le_of_ble_eq_true rfl) rfl dX6_towns_129 ?_
          obtain ⟨g13, h⟩ := nguard h
          obtain ⟨t14, et14, h⟩ := nlet h
          refine nx_iast C0 nI_65 g13 dX6_towns_132 et14 ?_
          obtain ⟨v15, ev15, h⟩ := nlet h
          refine nx_iinc (v := v15) (lv' := [(6, .int v15), (0, .ref (na B 63)), (1, .int a1), (3, .int a3), (4, .int a4), (5, .int a5)]) C0 5 dX6_towns_133 rfl ev15 (by decide) rfl ?_
          refine nx_goto (tgt := 106) C0 dX6_towns_136 (by decide) ?_
          refine nx_lv (lv' := [(0, .ref (na B 63)), (1, .int a1), (3, .int a3), (4, .int a4), (5, .int a5), (6, .int v15)]) [1, 2, 3, 4, 5, 0] rfl ?_
          exact ih a1 a3 a4 a5 v15 t14 h
  have hfX6_towns_b64 : ∀ (s44 : Int32 → Int32 → Int32 → Int32 → nS → Option (Int32 × nS)) (hs44 : ∀ (a1 : Int32) (a3 : Int32) (a4 : Int32) (a5 : Int32) (σ : nS), s44 a1 a3 a4 a5 σ = some (r, σ1) → nJ p l e rmX6_towns s m args below meth c 0 0 (MQ below (nQi D B r σ1 s.heap.size) args s 0 0 (nA B s.heap.size)) D B 7 44 [(0, .ref (na B 63)), (1, .int a1), (3, .int a3), (4, .int a4), (5, .int a5)] [] σ) (n : Nat) (a1 : Int32) (a3 : Int32) (a4 : Int32) (a5 : Int32) (a6 : Int32) (σ : nS) (h : fX6_towns_b64 s44 n a1 a3 a4 a5 a6 σ = some (r, σ1)), nJ p l e rmX6_towns s m args below meth c 0 0 (MQ below (nQi D B r σ1 s.heap.size) args s 0 0 (nA B s.heap.size)) D B 7 64 [(0, .ref (na B 63)), (1, .int a1), (3, .int a3), (4, .int a4), (5, .int a5), (6, .int a6)] [] σ := by
    intro s44 hs44 n
    induction n with
    | zero => intro a1 a3 a4 a5 a6 σ h; cases h
    | succ n ih =>
        intro a1 a3 a4 a5 a6 σ h
        rw [fX6_towns_b64] at h
        refine nx_iload C0 5 dX6_towns_64 rfl ?_
        refine nx_aload_n C0 0 dX6_towns_66 rfl ?_
        refine nx_gX6_s C0 hh0 hh1 dX6_towns_67 ?_
        refine nx_iconst (v := 0) C0 dX6_towns_70 (by decide) ?_
        obtain ⟨g16, h⟩ := nguard h
        refine nx_iald C0 nI_64 g16 dX6_towns_71 ?_
        refine nx_icmp_ge (tgt := 103) C0 dX6_towns_72 (by decide) (fun q => ?_) (fun q => ?_)
        · have h := nift q h
          refine nx_iconst (v := 0) C0 dX6_towns_103 (by decide) ?_
          refine nx_istore (i := 6) (y := (0 : Int32)) (lv' := [(6, .int (0 : Int32)), (0, .ref (na B 63)), (1, .int a1), (3, .int a3), (4, .int a4), (5, .int a5)]) C0 dX6_towns_104 (by decide) rfl rfl ?_
          refine nx_lv (lv' := [(0, .ref (na B 63)), (1, .int a1), (3, .int a3), (4, .int a4), (5, .int a5), (6, .int (0 : Int32))]) [1, 2, 3, 4, 5, 0] rfl ?_
          exact hfX6_towns_b106 s44 hs44 4096 a1 a3 a4 a5 (0 : Int32) σ h
        · have h := niff q h
          refine nx_aload_n C0 0 dX6_towns_75 rfl ?_
          refine nx_gX6_m C0 hh0 hh2 dX6_towns_76 ?_
          refine nx_iload C0 5 dX6_towns_79 rfl ?_
          obtain ⟨r18, c17, h⟩ := nbind h
          refine nx_cSi (n := 1) (As := [.int a6]) (st := [.ref (na B 65)]) C0 (mX6_ofG l D B hB a6 σ c17) gX6_towns_X6_ofG rfl rfl rfl ndX6_ofG ⟨Nat.le_of_ble_eq_true rfl, Nat.le_of_ble_eq_true rfl⟩ rfl (Nat.le_of_ble_eq_true rfl) rfl dX6_towns_81 ?_
          refine nx_iconst (v := 2) C0 dX6_towns_84 (by decide) ?_
          refine nx_iadd C0 dX6_towns_85 ?_
          refine nx_aload_n C0 0 dX6_towns_86 rfl ?_
          refine nx_aload_n C0 0 dX6_towns_87 rfl ?_
          refine nx_gX6_s C0 hh0 hh1 dX6_towns_88 ?_
          refine nx_iconst (v := 1) C0 dX6_towns_91 (by decide) ?_
          obtain ⟨g19, h⟩ := nguard h
          refine nx_iald C0 nI_64 g19 dX6_towns_92 ?_
          obtain ⟨r21, t22, c20, h⟩ := nbind2 h
          refine nx_cVi (ci := 6) (n := 1) (As := [.int (σ 64 ((1 : Int32)).toNatClampNeg)]) (st := [.int (r18 + (2 : Int32)), .ref (na B 65)]) C0 (mX6_drawn l D B hB (σ 64 ((1 : Int32)).toNatClampNeg) σ c20) gX6_towns_X6_drawn rfl rfl rfl ndX6_drawn ⟨Nat.le_of_ble_eq_true rfl, Nat.le_of_ble_eq_true rfl⟩ (by decide) rfl rfl rfl rfl (Nat.le_of_ble_eq_true rfl) rfl dX6_towns_93 ?_
          obtain ⟨g23, h⟩ := nguard h
          obtain ⟨t24, et24, h⟩ := nlet h
          refine nx_iast C0 nI_65 g23 dX6_towns_96 et24 ?_
          obtain ⟨v25, ev25, h⟩ := nlet h
          refine nx_iinc (v := v25) (lv' := [(6, .int v25), (0, .ref (na B 63)), (1, .int a1), (3, .int a3), (4, .int a4), (5, .int a5)]) C0 5 dX6_towns_97 rfl ev25 (by decide) rfl ?_
          refine nx_goto (tgt := 64) C0 dX6_towns_100 (by decide) ?_
          refine nx_lv (lv' := [(0, .ref (na B 63)), (1, .int a1), (3, .int a3), (4, .int a4), (5, .int a5), (6, .int v25)]) [1, 2, 3, 4, 5, 0] rfl ?_
          exact ih a1 a3 a4 a5 v25 t24 h
  have hfX6_towns_b44 : ∀  (n : Nat) (a1 : Int32) (a3 : Int32) (a4 : Int32) (a5 : Int32) (σ : nS) (h : fX6_towns_b44  n a1 a3 a4 a5 σ = some (r, σ1)), nJ p l e rmX6_towns s m args below meth c 0 0 (MQ below (nQi D B r σ1 s.heap.size) args s 0 0 (nA B s.heap.size)) D B 7 44 [(0, .ref (na B 63)), (1, .int a1), (3, .int a3), (4, .int a4), (5, .int a5)] [] σ := by
    intro  n
    induction n with
    | zero => intro a1 a3 a4 a5 σ h; cases h
    | succ n ih =>
        intro a1 a3 a4 a5 σ h
        rw [fX6_towns_b44] at h
        refine nx_iload C0 4 dX6_towns_44 rfl ?_
        refine nx_iload_n C0 1 dX6_towns_46 rfl ?_
        refine nx_icmp_ge (tgt := 171) C0 dX6_towns_47 (by decide) (fun q => ?_) (fun q => ?_)
        · have h := nift q h
          refine nx_iload C0 3 dX6_towns_171 rfl ?_
          exact nr_i2 C0 hr dX6_towns_173 h
        · have h := niff q h
          refine nx_aload_n C0 0 dX6_towns_50 rfl ?_
          refine nx_gX6_s C0 hh0 hh1 dX6_towns_51 ?_
          refine nx_aload_n C0 0 dX6_towns_54 rfl ?_
          refine nx_gX6_m C0 hh0 hh2 dX6_towns_55 ?_
          obtain ⟨r27, t28, c26, h⟩ := nbind2 h
          refine nx_cSv (n := 2) (As := [.ref (na B 64), .ref (na B 65)]) (st := []) C0 (mX6_copies l D B hB nR64 nR65 σ c26) gX6_towns_X6_copies rfl rfl rfl ndX6_copies ⟨Nat.le_of_ble_eq_true rfl, Nat.le_of_ble_eq_true rfl⟩ rfl (Nat.le_of_ble_eq_true rfl) rfl dX6_towns_58 ?_
          refine nx_iconst (v := 0) C0 dX6_towns_61 (by decide) ?_
          refine nx_istore (i := 6) (y := (0 : Int32)) (lv' := [(6, .int (0 : Int32)), (0, .ref (na B 63)), (1, .int a1), (3, .int a3), (4, .int a4), (5, .int a5)]) C0 dX6_towns_62 (by decide) rfl rfl ?_
          refine nx_lv (lv' := [(0, .ref (na B 63)), (1, .int a1), (3, .int a3), (4, .int a4), (5, .int a5), (6, .int (0 : Int32))]) [1, 2, 3, 4, 5, 0] rfl ?_
          exact hfX6_towns_b64 (fX6_towns_b44 n) ih 4096 a1 a3 a4 a5 (0 : Int32) t28 h
  refine nx_lv (lv' := [(0, .ref (na B 63)), (1, .int x1), (2, .int x2), (3, .int x3)]) [0, 1, 2, 3] rfl ?_
  rw [fX6_towns] at h
  refine nx_iload_n C0 1 dX6_towns_0 rfl ?_
  refine nx_iconst (v := 1) C0 dX6_towns_1 (by decide) ?_
  refine nx_bipush (v := 20) C0 dX6_towns_2 (by decide) ?_
  obtain ⟨r30, c29, h⟩ := nbind h
  refine nx_cSi (n := 3) (As := [.int x1, .int (1 : Int32), .int (20 : Int32)]) (st := []) C0 (mX6_isIn l D B hB x1 (1 : Int32) (20 : Int32) σ c29) gX6_towns_X6_isIn rfl rfl rfl ndX6_isIn ⟨Nat.le_of_ble_eq_true rfl, Nat.le_of_ble_eq_true rfl⟩ rfl (Nat.le_of_ble_eq_true rfl) rfl dX6_towns_4 ?_
  refine nx_if_eq (tgt := 19) C0 dX6_towns_7 (by decide) (fun q => ?_) (fun q => ?_)
  · have h := nift q h
    refine nx_iconst (v := -1) C0 dX6_towns_19 (by decide) ?_
    exact nr_i2 C0 hr dX6_towns_20 h
  · have h := niff q h
    refine nx_iload_n C0 3 dX6_towns_10 rfl ?_
    refine nx_iconst (v := 0) C0 dX6_towns_11 (by decide) ?_
    refine nx_iconst (v := 1) C0 dX6_towns_12 (by decide) ?_
    obtain ⟨r32, c31, h⟩ := nbind h
    refine nx_cSi (n := 3) (As := [.int x3, .int (0 : Int32), .int (1 : Int32)]) (st := []) C0 (mX6_isIn l D B hB x3 (0 : Int32) (1 : Int32) σ c31) gX6_towns_X6_isIn rfl rfl rfl ndX6_isIn ⟨Nat.le_of_ble_eq_true rfl, Nat.le_of_ble_eq_true rfl⟩ rfl (Nat.le_of_ble_eq_true rfl) rfl dX6_towns_13 ?_
    refine nx_if_ne (tgt := 21) C0 dX6_towns_16 (by decide) (fun q => ?_) (fun q => ?_)
    · have h := niff q h
      refine nx_aload_n C0 0 dX6_towns_21 rfl ?_
      refine nx_gX6_s C0 hh0 hh1 dX6_towns_22 ?_
      refine nx_iconst (v := 1) C0 dX6_towns_25 (by decide) ?_
      obtain ⟨g33, h⟩ := nguard h
      refine nx_iald C0 nI_64 g33 dX6_towns_26 ?_
      refine nx_if_ne (tgt := 33) C0 dX6_towns_27 (by decide) (fun q => ?_) (fun q => ?_)
      · have h := niff q h
        refine nx_aload_n C0 0 dX6_towns_33 rfl ?_
        refine nx_iload_n C0 2 dX6_towns_34 rfl ?_
        obtain ⟨t34, et34, h⟩ := nlet h
        refine nx_pX6_seed C0 hh0 hh3 dX6_towns_35 et34 ?_
        refine nx_iconst (v := 0) C0 dX6_towns_38 (by decide) ?_
        refine nx_istore (i := 4) (y := (0 : Int32)) (lv' := [(4, .int (0 : Int32)), (0, .ref (na B 63)), (1, .int x1), (2, .int x2), (3, .int x3)]) C0 dX6_towns_39 (by decide) rfl rfl ?_
        refine nx_iconst (v := 0) C0 dX6_towns_41 (by decide) ?_
        refine nx_istore (i := 5) (y := (0 : Int32)) (lv' := [(5, .int (0 : Int32)), (4, .int (0 : Int32)), (0, .ref (na B 63)), (1, .int x1), (2, .int x2), (3, .int x3)]) C0 dX6_towns_42 (by decide) rfl rfl ?_
        refine nx_lv (lv' := [(0, .ref (na B 63)), (1, .int x1), (3, .int x3), (4, .int (0 : Int32)), (5, .int (0 : Int32))]) [2, 3, 5, 1, 0] rfl ?_
        exact hfX6_towns_b44 4096 x1 x3 (0 : Int32) (0 : Int32) t34 h
      · have h := nift q h
        refine nx_bipush (v := -3) C0 dX6_towns_30 (by decide) ?_
        exact nr_i2 C0 hr dX6_towns_32 h
    · have h := nift q h
      refine nx_iconst (v := -1) C0 dX6_towns_19 (by decide) ?_
      exact nr_i2 C0 hr dX6_towns_20 h
def rmX6_image : Room := { frames := 1, cells := 0, slots := 0, locals := 22 }
theorem ndX6_image : yX6_image.cls = RX6 ∧ yX6_image.cls ≠ "java/lang/invoke/MethodHandle" ∧ yX6_image.cls ≠ "java/lang/invoke/VarHandle" ∧ (parseMethodDescriptor yX6_image.desc).map (fun d => d.parameters.length) = some 0 := by decide +kernel
set_option maxRecDepth 100000 in
set_option maxHeartbeats 4000000 in
theorem mX6_image (l : Launch) (D : va_G) (B : nBT) (hB : nInj B)  (σ : nS) {r : Int32} {σ1 : nS} (h : fX6_image σ = some (r, σ1)) : nMi l D B yX6_image wsX6_image rmX6_image [.ref (na B 63)] σ r σ1 := by
  refine nmet (cc := cX6_image) (maxL := 1) (ret := (some .int)) (own := RX6) (av := [.ref (na B 63)]) (nQi D B r σ1) hB (by decide) rfl rfl (Nat.le_of_ble_eq_true rfl) (fun p e s m args below meth c C0 hr => ?_)
  have hh0 : ∀ w ∈ wsX60, w ∈ wsX6_image := by decide +kernel
  have hh1 := C0.2.2.2.2.1 (Cond.fieldLink RX6 9 "NotInTheCoinModel" "s" "[I") (by decide +kernel)
  have hh2 := C0.2.2.2.2.1 (Cond.fieldLink RX6 16 "NotInTheCoinModel" "image" "[I") (by decide +kernel)
  have hh3 := C0.2.2.2.2.1 (Cond.fieldLink RX6 234 "NotInTheCoinModel" "hasImage" "Z") (by decide +kernel)
  refine nx_lv (lv' := [(0, .ref (na B 63))]) [0] rfl ?_
  rw [fX6_image] at h
  refine nx_aload_n C0 0 dX6_image_0 rfl ?_
  refine nx_gX6_s C0 hh0 hh1 dX6_image_1 ?_
  refine nx_aload_n C0 0 dX6_image_4 rfl ?_
  refine nx_gX6_image C0 hh0 hh2 dX6_image_5 ?_
  obtain ⟨r2, t3, c1, h⟩ := nbind2 h
  refine nx_cSv (n := 2) (As := [.ref (na B 64), .ref (na B 66)]) (st := []) C0 (mX6_copies l D B hB nR64 nR66 σ c1) gX6_image_X6_copies rfl rfl rfl ndX6_copies ⟨Nat.le_of_ble_eq_true rfl, Nat.le_of_ble_eq_true rfl⟩ rfl (Nat.le_of_ble_eq_true rfl) rfl dX6_image_8 ?_
  refine nx_aload_n C0 0 dX6_image_11 rfl ?_
  refine nx_iconst (v := 1) C0 dX6_image_12 (by decide) ?_
  obtain ⟨t4, et4, h⟩ := nlet h
  refine nx_pX6_hasImage C0 rfl rfl hh0 hh3 dX6_image_13 et4 ?_
  refine nx_aload_n C0 0 dX6_image_16 rfl ?_
  refine nx_gX6_s C0 hh0 hh1 dX6_image_17 ?_
  refine nx_iconst (v := 3) C0 dX6_image_20 (by decide) ?_
  obtain ⟨g5, h⟩ := nguard h
  refine nx_iald C0 nI_64 g5 dX6_image_21 ?_
  exact nr_i2 C0 hr dX6_image_22 h
def rmX6_restore : Room := { frames := 1, cells := 0, slots := 0, locals := 22 }
theorem ndX6_restore : yX6_restore.cls = RX6 ∧ yX6_restore.cls ≠ "java/lang/invoke/MethodHandle" ∧ yX6_restore.cls ≠ "java/lang/invoke/VarHandle" ∧ (parseMethodDescriptor yX6_restore.desc).map (fun d => d.parameters.length) = some 0 := by decide +kernel
set_option maxRecDepth 100000 in
set_option maxHeartbeats 4000000 in
theorem mX6_restore (l : Launch) (D : va_G) (B : nBT) (hB : nInj B)  (σ : nS) {r : Int32} {σ1 : nS} (h : fX6_restore σ = some (r, σ1)) : nMi l D B yX6_restore wsX6_restore rmX6_restore [.ref (na B 63)] σ r σ1 := by
  refine nmet (cc := cX6_restore) (maxL := 1) (ret := (some .int)) (own := RX6) (av := [.ref (na B 63)]) (nQi D B r σ1) hB (by decide) rfl rfl (Nat.le_of_ble_eq_true rfl) (fun p e s m args below meth c C0 hr => ?_)
  have hh0 : ∀ w ∈ wsX60, w ∈ wsX6_restore := by decide +kernel
  have hh1 := C0.2.2.2.2.1 (Cond.fieldLink RX6 234 "NotInTheCoinModel" "hasImage" "Z") (by decide +kernel)
  have hh2 := C0.2.2.2.2.1 (Cond.fieldLink RX6 16 "NotInTheCoinModel" "image" "[I") (by decide +kernel)
  have hh3 := C0.2.2.2.2.1 (Cond.fieldLink RX6 9 "NotInTheCoinModel" "s" "[I") (by decide +kernel)
  refine nx_lv (lv' := [(0, .ref (na B 63))]) [0] rfl ?_
  rw [fX6_restore] at h
  refine nx_aload_n C0 0 dX6_restore_0 rfl ?_
  refine nx_gX6_hasImage C0 hh0 hh1 dX6_restore_1 ?_
  refine nx_if_ne (tgt := 10) C0 dX6_restore_4 (by decide) (fun q => ?_) (fun q => ?_)
  · have h := niff q h
    refine nx_aload_n C0 0 dX6_restore_10 rfl ?_
    refine nx_gX6_image C0 hh0 hh2 dX6_restore_11 ?_
    refine nx_aload_n C0 0 dX6_restore_14 rfl ?_
    refine nx_gX6_s C0 hh0 hh3 dX6_restore_15 ?_
    obtain ⟨r2, t3, c1, h⟩ := nbind2 h
    refine nx_cSv (n := 2) (As := [.ref (na B 66), .ref (na B 64)]) (st := []) C0 (mX6_copies l D B hB nR66 nR64 σ c1) gX6_restore_X6_copies rfl rfl rfl ndX6_copies ⟨Nat.le_of_ble_eq_true rfl, Nat.le_of_ble_eq_true rfl⟩ rfl (Nat.le_of_ble_eq_true rfl) rfl dX6_restore_18 ?_
    refine nx_aload_n C0 0 dX6_restore_21 rfl ?_
    refine nx_gX6_s C0 hh0 hh3 dX6_restore_22 ?_
    refine nx_iconst (v := 3) C0 dX6_restore_25 (by decide) ?_
    obtain ⟨g4, h⟩ := nguard h
    refine nx_iald C0 nI_64 g4 dX6_restore_26 ?_
    exact nr_i2 C0 hr dX6_restore_27 h
  · have h := nift q h
    refine nx_bipush (v := -3) C0 dX6_restore_7 (by decide) ?_
    exact nr_i2 C0 hr dX6_restore_9 h
def rmX6_count : Room := { frames := 5, cells := 0, slots := 0, locals := 112 }
theorem ndX6_count : yX6_count.cls = RX6 ∧ yX6_count.cls ≠ "java/lang/invoke/MethodHandle" ∧ yX6_count.cls ≠ "java/lang/invoke/VarHandle" ∧ (parseMethodDescriptor yX6_count.desc).map (fun d => d.parameters.length) = some 1 := by decide +kernel
set_option maxRecDepth 100000 in
set_option maxHeartbeats 4000000 in
theorem mX6_count (l : Launch) (D : va_G) (B : nBT) (hB : nInj B) (x1 : Int32) (σ : nS) {r : Int32}  (h : fX6_count x1 σ = some r) : nMi l D B yX6_count wsX6_count rmX6_count [.ref (na B 63), .int x1] σ r σ := by
  refine nmet (cc := cX6_count) (maxL := 4) (ret := (some .int)) (own := RX6) (av := [.ref (na B 63), .int x1]) (nQi D B r σ) hB (by decide) rfl rfl (Nat.le_of_ble_eq_true rfl) (fun p e s m args below meth c C0 hr => ?_)
  have hh0 : ∀ w ∈ wsX60, w ∈ wsX6_count := by decide +kernel
  have hh1 := C0.2.2.2.2.1 (Cond.fieldLink RX6 9 "NotInTheCoinModel" "s" "[I") (by decide +kernel)
  have hfX6_count_b65 : ∀  (n : Nat) (a2 : Int32) (a3 : Int32) (h : fX6_count_b65  n a2 a3 σ = some r), nJ p l e rmX6_count s m args below meth c 0 0 (MQ below (nQi D B r σ s.heap.size) args s 0 0 (nA B s.heap.size)) D B 4 65 [(0, .ref (na B 63)), (2, .int a2), (3, .int a3)] [] σ := by
    intro  n
    induction n with
    | zero => intro a2 a3 h; cases h
    | succ n ih =>
        intro a2 a3 h
        rw [fX6_count_b65] at h
        refine nx_iload_n C0 2 dX6_count_65 rfl ?_
        refine nx_bipush (v := 8) C0 dX6_count_66 (by decide) ?_
        refine nx_icmp_ge (tgt := 91) C0 dX6_count_68 (by decide) (fun q => ?_) (fun q => ?_)
        · have h := nift q h
          refine nx_iload_n C0 1 dX6_count_91 rfl ?_
          obtain ⟨r2, c1, h⟩ := nbind h
          refine nx_cSi (n := 1) (As := [.int a2]) (st := []) C0 (mX6_bits l D B hB a2 σ c1) gX6_count_X6_bits rfl rfl rfl ndX6_bits ⟨Nat.le_of_ble_eq_true rfl, Nat.le_of_ble_eq_true rfl⟩ rfl (Nat.le_of_ble_eq_true rfl) rfl dX6_count_92 ?_
          exact nr_i C0 hr dX6_count_95 h
        · have h := niff q h
          refine nx_iload_n C0 1 dX6_count_71 rfl ?_
          refine nx_iconst (v := 1) C0 dX6_count_72 (by decide) ?_
          refine nx_aload_n C0 0 dX6_count_73 rfl ?_
          refine nx_gX6_s C0 hh0 hh1 dX6_count_74 ?_
          refine nx_bipush (v := 66) C0 dX6_count_77 (by decide) ?_
          refine nx_iload_n C0 2 dX6_count_79 rfl ?_
          refine nx_iadd C0 dX6_count_80 ?_
          obtain ⟨g3, h⟩ := nguard h
          refine nx_iald C0 nI_64 g3 dX6_count_81 ?_
          refine nx_ishl C0 dX6_count_82 ?_
          refine nx_ior C0 dX6_count_83 ?_
          obtain ⟨v4, ev4, h⟩ := nlet h
          refine nx_istore_n (i := 2) (y := v4) (lv' := [(2, .int v4), (0, .ref (na B 63)), (3, .int a3)]) C0 dX6_count_84 rfl (by decide) ev4 rfl ?_
          obtain ⟨v5, ev5, h⟩ := nlet h
          refine nx_iinc (v := v5) (lv' := [(3, .int v5), (2, .int v4), (0, .ref (na B 63))]) C0 2 dX6_count_85 rfl ev5 (by decide) rfl ?_
          refine nx_goto (tgt := 65) C0 dX6_count_88 (by decide) ?_
          refine nx_lv (lv' := [(0, .ref (na B 63)), (2, .int v4), (3, .int v5)]) [2, 1, 0] rfl ?_
          exact ih v4 v5 h
  refine nx_lv (lv' := [(0, .ref (na B 63)), (1, .int x1)]) [0, 1] rfl ?_
  rw [fX6_count] at h
  refine nx_iload_n C0 1 dX6_count_0 rfl ?_
  refine nx_iconst (v := 0) C0 dX6_count_1 (by decide) ?_
  refine nx_iconst (v := 2) C0 dX6_count_2 (by decide) ?_
  obtain ⟨r7, c6, h⟩ := nbind h
  refine nx_cSi (n := 3) (As := [.int x1, .int (0 : Int32), .int (2 : Int32)]) (st := []) C0 (mX6_isIn l D B hB x1 (0 : Int32) (2 : Int32) σ c6) gX6_count_X6_isIn rfl rfl rfl ndX6_isIn ⟨Nat.le_of_ble_eq_true rfl, Nat.le_of_ble_eq_true rfl⟩ rfl (Nat.le_of_ble_eq_true rfl) rfl dX6_count_3 ?_
  refine nx_if_eq (tgt := 16) C0 dX6_count_6 (by decide) (fun q => ?_) (fun q => ?_)
  · have h := nift q h
    refine nx_iconst (v := 0) C0 dX6_count_16 (by decide) ?_
    refine nx_istore_n (i := 2) (y := (0 : Int32)) (lv' := [(2, .int (0 : Int32)), (0, .ref (na B 63)), (1, .int x1)]) C0 dX6_count_17 rfl (by decide) rfl rfl ?_
    refine nx_iload_n C0 2 dX6_count_18 rfl ?_
    by_cases q10 : x1 = 3
    · have h := nift q10 h
      refine nx_tabIn (tgt := 48) C0 3 dX6_count_19 (by rw [q10]; rfl) (by decide) (by decide) rfl (by decide) ?_
      refine nx_aload_n C0 1 dX6_count_48 rfl ?_
      refine nx_gX6_s C0 hh0 hh1 dX6_count_49 ?_
      obtain ⟨r9, c8, h⟩ := nbind h
      refine nx_cSi (n := 1) (As := [.ref (na B 64)]) (st := []) C0 (mX6_openIn l D B hB nR64 σ c8) gX6_count_X6_openIn rfl rfl rfl ndX6_openIn ⟨Nat.le_of_ble_eq_true rfl, Nat.le_of_ble_eq_true rfl⟩ rfl (Nat.le_of_ble_eq_true rfl) rfl dX6_count_52 ?_
      exact nr_i C0 hr dX6_count_55 h
    have h := niff q10 h
    by_cases q12 : x1 = 4
    · have h := nift q12 h
      refine nx_tabIn (tgt := 56) C0 4 dX6_count_19 (by rw [q12]; rfl) (by decide) (by decide) rfl (by decide) ?_
      refine nx_aload_n C0 1 dX6_count_56 rfl ?_
      refine nx_gX6_s C0 hh0 hh1 dX6_count_57 ?_
      refine nx_iconst (v := 3) C0 dX6_count_60 (by decide) ?_
      obtain ⟨g11, h⟩ := nguard h
      refine nx_iald C0 nI_64 g11 dX6_count_61 ?_
      exact nr_i C0 hr dX6_count_62 h
    have h := niff q12 h
    by_cases q13 : x1 = 5
    · have h := nift q13 h
      refine nx_tabIn (tgt := 63) C0 5 dX6_count_19 (by rw [q13]; rfl) (by decide) (by decide) rfl (by decide) ?_
      refine nx_iconst (v := 0) C0 dX6_count_63 (by decide) ?_
      refine nx_istore_n (i := 3) (y := (0 : Int32)) (lv' := [(3, .int (0 : Int32)), (2, .int (0 : Int32)), (0, .ref (na B 63)), (1, .int x1)]) C0 dX6_count_64 rfl (by decide) rfl rfl ?_
      refine nx_lv (lv' := [(0, .ref (na B 63)), (2, .int (0 : Int32)), (3, .int (0 : Int32))]) [2, 1, 0] rfl ?_
      exact hfX6_count_b65 4096 (0 : Int32) (0 : Int32) h
    have h := niff q13 h
    by_cases q16 : x1 = 6
    · have h := nift q16 h
      refine nx_tabIn (tgt := 96) C0 6 dX6_count_19 (by rw [q16]; rfl) (by decide) (by decide) rfl (by decide) ?_
      refine nx_aload_n C0 1 dX6_count_96 rfl ?_
      refine nx_gX6_s C0 hh0 hh1 dX6_count_97 ?_
      obtain ⟨r15, c14, h⟩ := nbind h
      refine nx_cSi (n := 1) (As := [.ref (na B 64)]) (st := []) C0 (mX6_richesAll l D B hB nR64 σ c14) gX6_count_X6_richesAll rfl rfl rfl ndX6_richesAll ⟨Nat.le_of_ble_eq_true rfl, Nat.le_of_ble_eq_true rfl⟩ rfl (Nat.le_of_ble_eq_true rfl) rfl dX6_count_100 ?_
      exact nr_i C0 hr dX6_count_103 h
    have h := niff q16 h
    have q10n := nne q10 (z := 3) rfl
    have q12n := nne q12 (z := 4) rfl
    have q13n := nne q13 (z := 5) rfl
    have q16n := nne q16 (z := 6) rfl
    refine nx_tabOut (tgt := 104) C0 dX6_count_19 (by omega) (by decide) ?_
    refine nx_iconst (v := -1) C0 dX6_count_104 (by decide) ?_
    exact nr_i C0 hr dX6_count_105 h
  · have h := niff q h
    refine nx_aload_n C0 0 dX6_count_9 rfl ?_
    refine nx_gX6_s C0 hh0 hh1 dX6_count_10 ?_
    refine nx_iload_n C0 1 dX6_count_13 rfl ?_
    obtain ⟨g17, h⟩ := nguard h
    refine nx_iald C0 nI_64 g17 dX6_count_14 ?_
    exact nr_i C0 hr dX6_count_15 h
def rmX6_thrown : Room := { frames := 0, cells := 0, slots := 0, locals := 0 }
theorem ndX6_thrown : yX6_thrown.cls = RX6 ∧ yX6_thrown.cls ≠ "java/lang/invoke/MethodHandle" ∧ yX6_thrown.cls ≠ "java/lang/invoke/VarHandle" ∧ (parseMethodDescriptor yX6_thrown.desc).map (fun d => d.parameters.length) = some 0 := by decide +kernel
set_option maxRecDepth 100000 in
set_option maxHeartbeats 4000000 in
theorem mX6_thrown (l : Launch) (D : va_G) (B : nBT) (hB : nInj B)  (σ : nS) {r : Int32}  (h : fX6_thrown σ = some r) : nMi l D B yX6_thrown wsX6_thrown rmX6_thrown [.ref (na B 63)] σ r σ := by
  refine nmet (cc := cX6_thrown) (maxL := 1) (ret := (some .int)) (own := RX6) (av := [.ref (na B 63)]) (nQi D B r σ) hB (by decide) rfl rfl (Nat.le_of_ble_eq_true rfl) (fun p e s m args below meth c C0 hr => ?_)
  have hh0 : ∀ w ∈ wsX60, w ∈ wsX6_thrown := by decide +kernel
  have hh1 := C0.2.2.2.2.1 (Cond.fieldLink RX6 238 "NotInTheCoinModel" "thrown" "I") (by decide +kernel)
  refine nx_lv (lv' := [(0, .ref (na B 63))]) [0] rfl ?_
  rw [fX6_thrown] at h
  refine nx_aload_n C0 0 dX6_thrown_0 rfl ?_
  refine nx_gX6_thrown C0 hh0 hh1 dX6_thrown_1 ?_
  exact nr_i C0 hr dX6_thrown_4 h
def rmX6_keep : Room := { frames := 2, cells := 0, slots := 0, locals := 42 }
theorem ndX6_keep : yX6_keep.cls = RX6 ∧ yX6_keep.cls ≠ "java/lang/invoke/MethodHandle" ∧ yX6_keep.cls ≠ "java/lang/invoke/VarHandle" ∧ (parseMethodDescriptor yX6_keep.desc).map (fun d => d.parameters.length) = some 4 := by decide +kernel
set_option maxRecDepth 100000 in
set_option maxHeartbeats 4000000 in
theorem mX6_keep (l : Launch) (D : va_G) (B : nBT) (hB : nInj B) (x1 : Int32) (x2 : Int32) (x3 : Int32) (x4 : Int32) (σ : nS) {r : Int32} {σ1 : nS} (h : fX6_keep x1 x2 x3 x4 σ = some (r, σ1)) : nMi l D B yX6_keep wsX6_keep rmX6_keep [.ref (na B 63), .int x1, .int x2, .int x3, .int x4] σ r σ1 := by
  refine nmet (cc := cX6_keep) (maxL := 5) (ret := (some .int)) (own := RX6) (av := [.ref (na B 63), .int x1, .int x2, .int x3, .int x4]) (nQi D B r σ1) hB (by decide) rfl rfl (Nat.le_of_ble_eq_true rfl) (fun p e s m args below meth c C0 hr => ?_)
  have hh0 : ∀ w ∈ wsX60, w ∈ wsX6_keep := by decide +kernel
  have hh1 := C0.2.2.2.2.1 (Cond.fieldLink RX6 34 "NotInTheCoinModel" "kept" "[I") (by decide +kernel)
  have hh2 := C0.2.2.2.2.1 (Cond.fieldLink RX6 37 "NotInTheCoinModel" "keptKind" "[I") (by decide +kernel)
  have hh3 := C0.2.2.2.2.1 (Cond.fieldLink RX6 40 "NotInTheCoinModel" "keptFigure" "[I") (by decide +kernel)
  have hfX6_keep_b44 : ∀  (a1 : Int32) (a2 : Int32) (a3 : Int32) (a4 : Int32) (σ : nS) (h : fX6_keep_b44  a1 a2 a3 a4 σ = some (r, σ1)), nJ p l e rmX6_keep s m args below meth c 0 0 (MQ below (nQi D B r σ1 s.heap.size) args s 0 0 (nA B s.heap.size)) D B 5 44 [(0, .ref (na B 63)), (1, .int a1), (2, .int a2), (3, .int a3), (4, .int a4)] [] σ := by
    intro  a1 a2 a3 a4 σ h
    rw [fX6_keep_b44] at h
    refine nx_aload_n C0 0 dX6_keep_44 rfl ?_
    refine nx_gX6_kept C0 hh0 hh1 dX6_keep_45 ?_
    refine nx_iload_n C0 1 dX6_keep_48 rfl ?_
    refine nx_iload_n C0 2 dX6_keep_49 rfl ?_
    obtain ⟨g1, h⟩ := nguard h
    obtain ⟨t2, et2, h⟩ := nlet h
    refine nx_iast C0 nI_72 g1 dX6_keep_50 et2 ?_
    refine nx_aload_n C0 0 dX6_keep_51 rfl ?_
    refine nx_gX6_keptKind C0 hh0 hh2 dX6_keep_52 ?_
    refine nx_iload_n C0 1 dX6_keep_55 rfl ?_
    refine nx_iload_n C0 3 dX6_keep_56 rfl ?_
    obtain ⟨g3, h⟩ := nguard h
    obtain ⟨t4, et4, h⟩ := nlet h
    refine nx_iast C0 nI_73 g3 dX6_keep_57 et4 ?_
    refine nx_aload_n C0 0 dX6_keep_58 rfl ?_
    refine nx_gX6_keptFigure C0 hh0 hh3 dX6_keep_59 ?_
    refine nx_iload_n C0 1 dX6_keep_62 rfl ?_
    refine nx_iload C0 4 dX6_keep_63 rfl ?_
    obtain ⟨g5, h⟩ := nguard h
    obtain ⟨t6, et6, h⟩ := nlet h
    refine nx_iast C0 nI_74 g5 dX6_keep_65 et6 ?_
    refine nx_iconst (v := 0) C0 dX6_keep_66 (by decide) ?_
    exact nr_i2 C0 hr dX6_keep_67 h
  refine nx_lv (lv' := [(0, .ref (na B 63)), (1, .int x1), (2, .int x2), (3, .int x3), (4, .int x4)]) [0, 1, 2, 3, 4] rfl ?_
  rw [fX6_keep] at h
  refine nx_iload_n C0 1 dX6_keep_0 rfl ?_
  obtain ⟨r8, c7, h⟩ := nbind h
  refine nx_cSi (n := 1) (As := [.int x1]) (st := []) C0 (mX6_isShelf l D B hB x1 σ c7) gX6_keep_X6_isShelf rfl rfl rfl ndX6_isShelf ⟨Nat.le_of_ble_eq_true rfl, Nat.le_of_ble_eq_true rfl⟩ rfl (Nat.le_of_ble_eq_true rfl) rfl dX6_keep_1 ?_
  refine nx_if_eq (tgt := 42) C0 dX6_keep_4 (by decide) (fun q => ?_) (fun q => ?_)
  · have h := nift q h
    refine nx_iconst (v := -1) C0 dX6_keep_42 (by decide) ?_
    exact nr_i2 C0 hr dX6_keep_43 h
  · have h := niff q h
    refine nx_iload_n C0 2 dX6_keep_7 rfl ?_
    refine nx_iconst (v := 0) C0 dX6_keep_8 (by decide) ?_
    refine nx_iconst (v := 1) C0 dX6_keep_9 (by decide) ?_
    obtain ⟨r10, c9, h⟩ := nbind h
    refine nx_cSi (n := 3) (As := [.int x2, .int (0 : Int32), .int (1 : Int32)]) (st := []) C0 (mX6_isIn l D B hB x2 (0 : Int32) (1 : Int32) σ c9) gX6_keep_X6_isIn rfl rfl rfl ndX6_isIn ⟨Nat.le_of_ble_eq_true rfl, Nat.le_of_ble_eq_true rfl⟩ rfl (Nat.le_of_ble_eq_true rfl) rfl dX6_keep_10 ?_
    refine nx_if_eq (tgt := 42) C0 dX6_keep_13 (by decide) (fun q => ?_) (fun q => ?_)
    · have h := nift q h
      refine nx_iconst (v := -1) C0 dX6_keep_42 (by decide) ?_
      exact nr_i2 C0 hr dX6_keep_43 h
    · have h := niff q h
      refine nx_iload_n C0 2 dX6_keep_16 rfl ?_
      refine nx_iconst (v := 1) C0 dX6_keep_17 (by decide) ?_
      refine nx_icmp_ne (tgt := 44) C0 dX6_keep_18 (by decide) (fun q => ?_) (fun q => ?_)
      · have h := niff q h
        exact hfX6_keep_b44 x1 x2 x3 x4 σ h
      · have h := nift q h
        refine nx_iload_n C0 3 dX6_keep_21 rfl ?_
        refine nx_iconst (v := 0) C0 dX6_keep_22 (by decide) ?_
        refine nx_bipush (v := 7) C0 dX6_keep_23 (by decide) ?_
        obtain ⟨r12, c11, h⟩ := nbind h
        refine nx_cSi (n := 3) (As := [.int x3, .int (0 : Int32), .int (7 : Int32)]) (st := []) C0 (mX6_isIn l D B hB x3 (0 : Int32) (7 : Int32) σ c11) gX6_keep_X6_isIn rfl rfl rfl ndX6_isIn ⟨Nat.le_of_ble_eq_true rfl, Nat.le_of_ble_eq_true rfl⟩ rfl (Nat.le_of_ble_eq_true rfl) rfl dX6_keep_25 ?_
        refine nx_if_eq (tgt := 42) C0 dX6_keep_28 (by decide) (fun q => ?_) (fun q => ?_)
        · have h := nift q h
          refine nx_iconst (v := -1) C0 dX6_keep_42 (by decide) ?_
          exact nr_i2 C0 hr dX6_keep_43 h
        · have h := niff q h
          refine nx_iload C0 4 dX6_keep_31 rfl ?_
          refine nx_iconst (v := 0) C0 dX6_keep_33 (by decide) ?_
          refine nx_bipush (v := 9) C0 dX6_keep_34 (by decide) ?_
          obtain ⟨r14, c13, h⟩ := nbind h
          refine nx_cSi (n := 3) (As := [.int x4, .int (0 : Int32), .int (9 : Int32)]) (st := []) C0 (mX6_isIn l D B hB x4 (0 : Int32) (9 : Int32) σ c13) gX6_keep_X6_isIn rfl rfl rfl ndX6_isIn ⟨Nat.le_of_ble_eq_true rfl, Nat.le_of_ble_eq_true rfl⟩ rfl (Nat.le_of_ble_eq_true rfl) rfl dX6_keep_36 ?_
          refine nx_if_ne (tgt := 44) C0 dX6_keep_39 (by decide) (fun q => ?_) (fun q => ?_)
          · have h := niff q h
            exact hfX6_keep_b44 x1 x2 x3 x4 σ h
          · have h := nift q h
            refine nx_iconst (v := -1) C0 dX6_keep_42 (by decide) ?_
            exact nr_i2 C0 hr dX6_keep_43 h
def rmX6_row : Room := { frames := 2, cells := 0, slots := 0, locals := 42 }
theorem ndX6_row : yX6_row.cls = RX6 ∧ yX6_row.cls ≠ "java/lang/invoke/MethodHandle" ∧ yX6_row.cls ≠ "java/lang/invoke/VarHandle" ∧ (parseMethodDescriptor yX6_row.desc).map (fun d => d.parameters.length) = some 3 := by decide +kernel
set_option maxRecDepth 100000 in
set_option maxHeartbeats 4000000 in
theorem mX6_row (l : Launch) (D : va_G) (B : nBT) (hB : nInj B) (x1 : Int32) (x2 : Int32) (x3 : Int32) (σ : nS) {r : Int32} {σ1 : nS} (h : fX6_row x1 x2 x3 σ = some (r, σ1)) : nMi l D B yX6_row wsX6_row rmX6_row [.ref (na B 63), .int x1, .int x2, .int x3] σ r σ1 := by
  refine nmet (cc := cX6_row) (maxL := 5) (ret := (some .int)) (own := RX6) (av := [.ref (na B 63), .int x1, .int x2, .int x3]) (nQi D B r σ1) hB (by decide) rfl rfl (Nat.le_of_ble_eq_true rfl) (fun p e s m args below meth c C0 hr => ?_)
  have hh0 : ∀ w ∈ wsX60, w ∈ wsX6_row := by decide +kernel
  have hh1 := C0.2.2.2.2.1 (Cond.fieldLink RX6 49 "NotInTheCoinModel" "element" "[I") (by decide +kernel)
  have hh2 := C0.2.2.2.2.1 (Cond.fieldLink RX6 34 "NotInTheCoinModel" "kept" "[I") (by decide +kernel)
  have hh3 := C0.2.2.2.2.1 (Cond.fieldLink RX6 43 "NotInTheCoinModel" "sort" "[I") (by decide +kernel)
  have hh4 := C0.2.2.2.2.1 (Cond.fieldLink RX6 46 "NotInTheCoinModel" "size" "[I") (by decide +kernel)
  have hfX6_row_b55 : ∀  (n : Nat) (a1 : Int32) (a4 : Int32) (σ : nS) (h : fX6_row_b55  n a1 a4 σ = some (r, σ1)), nJ p l e rmX6_row s m args below meth c 0 0 (MQ below (nQi D B r σ1 s.heap.size) args s 0 0 (nA B s.heap.size)) D B 5 55 [(0, .ref (na B 63)), (1, .int a1), (4, .int a4)] [] σ := by
    intro  n
    induction n with
    | zero => intro a1 a4 σ h; cases h
    | succ n ih =>
        intro a1 a4 σ h
        rw [fX6_row_b55] at h
        refine nx_iload C0 2 dX6_row_55 rfl ?_
        refine nx_bipush (v := 100) C0 dX6_row_57 (by decide) ?_
        refine nx_icmp_ge (tgt := 81) C0 dX6_row_59 (by decide) (fun q => ?_) (fun q => ?_)
        · have h := nift q h
          refine nx_iconst (v := 0) C0 dX6_row_81 (by decide) ?_
          exact nr_i2 C0 hr dX6_row_82 h
        · have h := niff q h
          refine nx_aload_n C0 0 dX6_row_62 rfl ?_
          refine nx_gX6_element C0 hh0 hh1 dX6_row_63 ?_
          refine nx_bipush (v := 100) C0 dX6_row_66 (by decide) ?_
          refine nx_iload_n C0 1 dX6_row_68 rfl ?_
          refine nx_imul C0 dX6_row_69 ?_
          refine nx_iload C0 2 dX6_row_70 rfl ?_
          refine nx_iadd C0 dX6_row_72 ?_
          refine nx_iconst (v := 0) C0 dX6_row_73 (by decide) ?_
          obtain ⟨g1, h⟩ := nguard h
          obtain ⟨t2, et2, h⟩ := nlet h
          refine nx_iast C0 nI_77 g1 dX6_row_74 et2 ?_
          obtain ⟨v3, ev3, h⟩ := nlet h
          refine nx_iinc (v := v3) (lv' := [(4, .int v3), (0, .ref (na B 63)), (1, .int a1)]) C0 2 dX6_row_75 rfl ev3 (by decide) rfl ?_
          refine nx_goto (tgt := 55) C0 dX6_row_78 (by decide) ?_
          refine nx_lv (lv' := [(0, .ref (na B 63)), (1, .int a1), (4, .int v3)]) [1, 2, 0] rfl ?_
          exact ih a1 v3 t2 h
  refine nx_lv (lv' := [(0, .ref (na B 63)), (1, .int x1), (2, .int x2), (3, .int x3)]) [0, 1, 2, 3] rfl ?_
  rw [fX6_row] at h
  refine nx_iload_n C0 1 dX6_row_0 rfl ?_
  obtain ⟨r5, c4, h⟩ := nbind h
  refine nx_cSi (n := 1) (As := [.int x1]) (st := []) C0 (mX6_isShelf l D B hB x1 σ c4) gX6_row_X6_isShelf rfl rfl rfl ndX6_isShelf ⟨Nat.le_of_ble_eq_true rfl, Nat.le_of_ble_eq_true rfl⟩ rfl (Nat.le_of_ble_eq_true rfl) rfl dX6_row_1 ?_
  refine nx_if_eq (tgt := 22) C0 dX6_row_4 (by decide) (fun q => ?_) (fun q => ?_)
  · have h := nift q h
    refine nx_iconst (v := -1) C0 dX6_row_22 (by decide) ?_
    exact nr_i2 C0 hr dX6_row_23 h
  · have h := niff q h
    refine nx_iload_n C0 2 dX6_row_7 rfl ?_
    refine nx_iconst (v := 0) C0 dX6_row_8 (by decide) ?_
    refine nx_iconst (v := 2) C0 dX6_row_9 (by decide) ?_
    obtain ⟨r7, c6, h⟩ := nbind h
    refine nx_cSi (n := 3) (As := [.int x2, .int (0 : Int32), .int (2 : Int32)]) (st := []) C0 (mX6_isIn l D B hB x2 (0 : Int32) (2 : Int32) σ c6) gX6_row_X6_isIn rfl rfl rfl ndX6_isIn ⟨Nat.le_of_ble_eq_true rfl, Nat.le_of_ble_eq_true rfl⟩ rfl (Nat.le_of_ble_eq_true rfl) rfl dX6_row_10 ?_
    refine nx_if_eq (tgt := 22) C0 dX6_row_13 (by decide) (fun q => ?_) (fun q => ?_)
    · have h := nift q h
      refine nx_iconst (v := -1) C0 dX6_row_22 (by decide) ?_
      exact nr_i2 C0 hr dX6_row_23 h
    · have h := niff q h
      refine nx_iload_n C0 3 dX6_row_16 rfl ?_
      refine nx_bipush (v := 100) C0 dX6_row_17 (by decide) ?_
      refine nx_icmp_le (tgt := 24) C0 dX6_row_19 (by decide) (fun q => ?_) (fun q => ?_)
      · have h := nift q h
        refine nx_iload_n C0 3 dX6_row_24 rfl ?_
        refine nx_if_ge (tgt := 31) C0 dX6_row_25 (by decide) (fun q => ?_) (fun q => ?_)
        · have h := nift q h
          refine nx_aload_n C0 0 dX6_row_31 rfl ?_
          refine nx_gX6_kept C0 hh0 hh2 dX6_row_32 ?_
          refine nx_iload_n C0 1 dX6_row_35 rfl ?_
          refine nx_iconst (v := 2) C0 dX6_row_36 (by decide) ?_
          obtain ⟨g8, h⟩ := nguard h
          obtain ⟨t9, et9, h⟩ := nlet h
          refine nx_iast C0 nI_72 g8 dX6_row_37 et9 ?_
          refine nx_aload_n C0 0 dX6_row_38 rfl ?_
          refine nx_gX6_sort C0 hh0 hh3 dX6_row_39 ?_
          refine nx_iload_n C0 1 dX6_row_42 rfl ?_
          refine nx_iload_n C0 2 dX6_row_43 rfl ?_
          obtain ⟨g10, h⟩ := nguard h
          obtain ⟨t11, et11, h⟩ := nlet h
          refine nx_iast C0 nI_75 g10 dX6_row_44 et11 ?_
          refine nx_aload_n C0 0 dX6_row_45 rfl ?_
          refine nx_gX6_size C0 hh0 hh4 dX6_row_46 ?_
          refine nx_iload_n C0 1 dX6_row_49 rfl ?_
          refine nx_iload_n C0 3 dX6_row_50 rfl ?_
          obtain ⟨g12, h⟩ := nguard h
          obtain ⟨t13, et13, h⟩ := nlet h
          refine nx_iast C0 nI_76 g12 dX6_row_51 et13 ?_
          refine nx_iconst (v := 0) C0 dX6_row_52 (by decide) ?_
          refine nx_istore (i := 4) (y := (0 : Int32)) (lv' := [(4, .int (0 : Int32)), (0, .ref (na B 63)), (1, .int x1), (2, .int x2), (3, .int x3)]) C0 dX6_row_53 (by decide) rfl rfl ?_
          refine nx_lv (lv' := [(0, .ref (na B 63)), (1, .int x1), (4, .int (0 : Int32))]) [1, 2, 0] rfl ?_
          exact hfX6_row_b55 4096 x1 (0 : Int32) t13 h
        · have h := niff q h
          refine nx_bipush (v := -14) C0 dX6_row_28 (by decide) ?_
          exact nr_i2 C0 hr dX6_row_30 h
      · have h := niff q h
        refine nx_iconst (v := -1) C0 dX6_row_22 (by decide) ?_
        exact nr_i2 C0 hr dX6_row_23 h
def rmX6_put : Room := { frames := 3, cells := 0, slots := 0, locals := 64 }
theorem ndX6_put : yX6_put.cls = RX6 ∧ yX6_put.cls ≠ "java/lang/invoke/MethodHandle" ∧ yX6_put.cls ≠ "java/lang/invoke/VarHandle" ∧ (parseMethodDescriptor yX6_put.desc).map (fun d => d.parameters.length) = some 3 := by decide +kernel
set_option maxRecDepth 100000 in
set_option maxHeartbeats 4000000 in
theorem mX6_put (l : Launch) (D : va_G) (B : nBT) (hB : nInj B) (x1 : Int32) (x2 : Int32) (x3 : Int32) (σ : nS) {r : Int32} {σ1 : nS} (h : fX6_put x1 x2 x3 σ = some (r, σ1)) : nMi l D B yX6_put wsX6_put rmX6_put [.ref (na B 63), .int x1, .int x2, .int x3] σ r σ1 := by
  refine nmet (cc := cX6_put) (maxL := 5) (ret := (some .int)) (own := RX6) (av := [.ref (na B 63), .int x1, .int x2, .int x3]) (nQi D B r σ1) hB (by decide) rfl rfl (Nat.le_of_ble_eq_true rfl) (fun p e s m args below meth c C0 hr => ?_)
  have hh0 : ∀ w ∈ wsX60, w ∈ wsX6_put := by decide +kernel
  have hh1 := C0.2.2.2.2.1 (Cond.fieldLink RX6 46 "NotInTheCoinModel" "size" "[I") (by decide +kernel)
  have hh2 := C0.2.2.2.2.1 (Cond.fieldLink RX6 49 "NotInTheCoinModel" "element" "[I") (by decide +kernel)
  have hh3 := C0.2.2.2.2.1 (Cond.fieldLink RX6 43 "NotInTheCoinModel" "sort" "[I") (by decide +kernel)
  refine nx_lv (lv' := [(0, .ref (na B 63)), (1, .int x1), (2, .int x2), (3, .int x3)]) [0, 1, 2, 3] rfl ?_
  rw [fX6_put] at h
  refine nx_aload_n C0 0 dX6_put_0 rfl ?_
  refine nx_iload_n C0 1 dX6_put_1 rfl ?_
  refine nx_iconst (v := -1) C0 dX6_put_2 (by decide) ?_
  obtain ⟨r2, c1, h⟩ := nbind h
  refine nx_cVi (ci := 6) (n := 2) (As := [.int x1, .int (-1 : Int32)]) (st := []) C0 (mX6_wrongRow l D B hB x1 (-1 : Int32) σ c1) gX6_put_X6_wrongRow rfl rfl rfl ndX6_wrongRow ⟨Nat.le_of_ble_eq_true rfl, Nat.le_of_ble_eq_true rfl⟩ (by decide) rfl rfl rfl rfl (Nat.le_of_ble_eq_true rfl) rfl dX6_put_3 ?_
  refine nx_istore (i := 4) (y := r2) (lv' := [(4, .int r2), (0, .ref (na B 63)), (1, .int x1), (2, .int x2), (3, .int x3)]) C0 dX6_put_6 (by decide) rfl rfl ?_
  refine nx_iload C0 0 dX6_put_8 rfl ?_
  refine nx_if_eq (tgt := 16) C0 dX6_put_10 (by decide) (fun q => ?_) (fun q => ?_)
  · have h := nift q h
    refine nx_iload_n C0 3 dX6_put_16 rfl ?_
    refine nx_iconst (v := 0) C0 dX6_put_17 (by decide) ?_
    refine nx_aload_n C0 1 dX6_put_18 rfl ?_
    refine nx_gX6_size C0 hh0 hh1 dX6_put_19 ?_
    refine nx_iload_n C0 2 dX6_put_22 rfl ?_
    obtain ⟨g3, h⟩ := nguard h
    refine nx_iald C0 nI_76 g3 dX6_put_23 ?_
    refine nx_iconst (v := 1) C0 dX6_put_24 (by decide) ?_
    refine nx_isub C0 dX6_put_25 ?_
    obtain ⟨r5, c4, h⟩ := nbind h
    refine nx_cSi (n := 3) (As := [.int x2, .int (0 : Int32), .int ((σ 76 (x1).toNatClampNeg) - (1 : Int32))]) (st := []) C0 (mX6_isIn l D B hB x2 (0 : Int32) ((σ 76 (x1).toNatClampNeg) - (1 : Int32)) σ c4) gX6_put_X6_isIn rfl rfl rfl ndX6_isIn ⟨Nat.le_of_ble_eq_true rfl, Nat.le_of_ble_eq_true rfl⟩ rfl (Nat.le_of_ble_eq_true rfl) rfl dX6_put_26 ?_
    refine nx_if_ne (tgt := 35) C0 dX6_put_29 (by decide) (fun q => ?_) (fun q => ?_)
    · have h := niff q h
      refine nx_aload_n C0 1 dX6_put_35 rfl ?_
      refine nx_gX6_element C0 hh0 hh2 dX6_put_36 ?_
      refine nx_bipush (v := 100) C0 dX6_put_39 (by decide) ?_
      refine nx_iload_n C0 2 dX6_put_41 rfl ?_
      refine nx_imul C0 dX6_put_42 ?_
      refine nx_iload_n C0 3 dX6_put_43 rfl ?_
      refine nx_iadd C0 dX6_put_44 ?_
      refine nx_aload_n C0 1 dX6_put_45 rfl ?_
      refine nx_gX6_sort C0 hh0 hh3 dX6_put_46 ?_
      refine nx_iload_n C0 2 dX6_put_49 rfl ?_
      obtain ⟨g6, h⟩ := nguard h
      refine nx_iald C0 nI_75 g6 dX6_put_50 ?_
      refine nx_if_ne (tgt := 59) C0 dX6_put_51 (by decide) (fun q => ?_) (fun q => ?_)
      · have h := niff q h
        refine nx_aload_n C0 1 dX6_put_59 rfl ?_
        refine nx_gX6_sort C0 hh0 hh3 dX6_put_60 ?_
        refine nx_iload_n C0 2 dX6_put_63 rfl ?_
        obtain ⟨g7, h⟩ := nguard h
        refine nx_iald C0 nI_75 g7 dX6_put_64 ?_
        refine nx_iconst (v := 1) C0 dX6_put_65 (by decide) ?_
        refine nx_icmp_ne (tgt := 74) C0 dX6_put_66 (by decide) (fun q => ?_) (fun q => ?_)
        · have h := niff q h
          refine nx_iload_n C0 4 dX6_put_74 rfl ?_
          obtain ⟨g8, h⟩ := nguard h
          obtain ⟨t9, et9, h⟩ := nlet h
          refine nx_iast C0 nI_77 g8 dX6_put_75 et9 ?_
          refine nx_iconst (v := 0) C0 dX6_put_76 (by decide) ?_
          exact nr_i2 C0 hr dX6_put_77 h
        · have h := nift q h
          refine nx_iload_n C0 4 dX6_put_69 rfl ?_
          refine nx_i2s C0 dX6_put_70 ?_
          refine nx_goto (tgt := 75) C0 dX6_put_71 (by decide) ?_
          obtain ⟨g10, h⟩ := nguard h
          obtain ⟨t11, et11, h⟩ := nlet h
          refine nx_iast C0 nI_77 g10 dX6_put_75 et11 ?_
          refine nx_iconst (v := 0) C0 dX6_put_76 (by decide) ?_
          exact nr_i2 C0 hr dX6_put_77 h
      · have h := nift q h
        refine nx_iload_n C0 4 dX6_put_54 rfl ?_
        refine nx_i2b C0 dX6_put_55 ?_
        refine nx_goto (tgt := 75) C0 dX6_put_56 (by decide) ?_
        obtain ⟨g12, h⟩ := nguard h
        obtain ⟨t13, et13, h⟩ := nlet h
        refine nx_iast C0 nI_77 g12 dX6_put_75 et13 ?_
        refine nx_iconst (v := 0) C0 dX6_put_76 (by decide) ?_
        exact nr_i2 C0 hr dX6_put_77 h
    · have h := nift q h
      refine nx_bipush (v := -13) C0 dX6_put_32 (by decide) ?_
      exact nr_i2 C0 hr dX6_put_34 h
  · have h := niff q h
    refine nx_iload C0 0 dX6_put_13 rfl ?_
    exact nr_i2 C0 hr dX6_put_15 h
def rmX6_element : Room := { frames := 2, cells := 0, slots := 0, locals := 42 }
theorem ndX6_element : yX6_element.cls = RX6 ∧ yX6_element.cls ≠ "java/lang/invoke/MethodHandle" ∧ yX6_element.cls ≠ "java/lang/invoke/VarHandle" ∧ (parseMethodDescriptor yX6_element.desc).map (fun d => d.parameters.length) = some 2 := by decide +kernel
set_option maxRecDepth 100000 in
set_option maxHeartbeats 4000000 in
theorem mX6_element (l : Launch) (D : va_G) (B : nBT) (hB : nInj B) (x1 : Int32) (x2 : Int32) (σ : nS) {r : Int64} {σ1 : nS} (h : fX6_element x1 x2 σ = some (r, σ1)) : nMl l D B yX6_element wsX6_element rmX6_element [.ref (na B 63), .int x1, .int x2] σ r σ1 := by
  refine nmet (cc := cX6_element) (maxL := 3) (ret := (some .long)) (own := RX6) (av := [.ref (na B 63), .int x1, .int x2]) (nQl D B r σ1) hB (by decide) rfl rfl (Nat.le_of_ble_eq_true rfl) (fun p e s m args below meth c C0 hr => ?_)
  have hh0 : ∀ w ∈ wsX60, w ∈ wsX6_element := by decide +kernel
  have hh1 := C0.2.2.2.2.1 (Cond.fieldLink RX6 238 "NotInTheCoinModel" "thrown" "I") (by decide +kernel)
  have hh2 := C0.2.2.2.2.1 (Cond.fieldLink RX6 49 "NotInTheCoinModel" "element" "[I") (by decide +kernel)
  have hh3 := C0.2.2.2.2.1 (Cond.fieldLink RX6 34 "NotInTheCoinModel" "kept" "[I") (by decide +kernel)
  have hh4 := C0.2.2.2.2.1 (Cond.fieldLink RX6 46 "NotInTheCoinModel" "size" "[I") (by decide +kernel)
  have hfX6_element_b43 : ∀  (a1 : Int32) (a2 : Int32) (z0 : Int32) (σ : nS) (h : fX6_element_b43  a1 a2 z0 σ = some (r, σ1)), nJ p l e rmX6_element s m args below meth c 0 0 (MQ below (nQl D B r σ1 s.heap.size) args s 0 0 (nA B s.heap.size)) D B 3 43 [(0, .ref (na B 63)), (1, .int a1), (2, .int a2)] [.int z0, .ref (na B 63)] σ := by
    intro  a1 a2 z0 σ h
    rw [fX6_element_b43] at h
    obtain ⟨t1, et1, h⟩ := nlet h
    refine nx_pX6_thrown C0 hh0 hh1 dX6_element_43 et1 ?_
    refine nx_aload_n C0 0 dX6_element_46 rfl ?_
    refine nx_gX6_thrown C0 hh0 hh1 dX6_element_47 ?_
    refine nx_if_ne (tgt := 68) C0 dX6_element_50 (by decide) (fun q => ?_) (fun q => ?_)
    · have h := niff q h
      refine nx_lconst (v := 0) C0 dX6_element_68 (by decide) ?_
      exact nr_l2 C0 hr dX6_element_69 h
    · have h := nift q h
      refine nx_aload_n C0 0 dX6_element_53 rfl ?_
      refine nx_gX6_element C0 hh0 hh2 dX6_element_54 ?_
      refine nx_bipush (v := 100) C0 dX6_element_57 (by decide) ?_
      refine nx_iload_n C0 1 dX6_element_59 rfl ?_
      refine nx_imul C0 dX6_element_60 ?_
      refine nx_iload_n C0 2 dX6_element_61 rfl ?_
      refine nx_iadd C0 dX6_element_62 ?_
      obtain ⟨g2, h⟩ := nguard h
      refine nx_iald C0 nI_77 g2 dX6_element_63 ?_
      refine nx_i2l C0 dX6_element_64 ?_
      refine nx_goto (tgt := 69) C0 dX6_element_65 (by decide) ?_
      exact nr_l2 C0 hr dX6_element_69 h
  have hfX6_element_b38 : ∀  (a1 : Int32) (a2 : Int32) (σ : nS) (h : fX6_element_b38  a1 a2 σ = some (r, σ1)), nJ p l e rmX6_element s m args below meth c 0 0 (MQ below (nQl D B r σ1 s.heap.size) args s 0 0 (nA B s.heap.size)) D B 3 38 [(0, .ref (na B 63)), (1, .int a1), (2, .int a2)] [.ref (na B 63)] σ := by
    intro  a1 a2 σ h
    rw [fX6_element_b38] at h
    refine nx_iconst (v := 2) C0 dX6_element_38 (by decide) ?_
    refine nx_goto (tgt := 43) C0 dX6_element_39 (by decide) ?_
    exact hfX6_element_b43 a1 a2 (2 : Int32) σ h
  refine nx_lv (lv' := [(0, .ref (na B 63)), (1, .int x1), (2, .int x2)]) [0, 1, 2] rfl ?_
  rw [fX6_element] at h
  refine nx_aload_n C0 0 dX6_element_0 rfl ?_
  refine nx_iload_n C0 1 dX6_element_1 rfl ?_
  obtain ⟨r4, c3, h⟩ := nbind h
  refine nx_cSi (n := 1) (As := [.int x1]) (st := [.ref (na B 63)]) C0 (mX6_isShelf l D B hB x1 σ c3) gX6_element_X6_isShelf rfl rfl rfl ndX6_isShelf ⟨Nat.le_of_ble_eq_true rfl, Nat.le_of_ble_eq_true rfl⟩ rfl (Nat.le_of_ble_eq_true rfl) rfl dX6_element_2 ?_
  refine nx_if_ne (tgt := 12) C0 dX6_element_5 (by decide) (fun q => ?_) (fun q => ?_)
  · have h := niff q h
    refine nx_aload_n C0 0 dX6_element_12 rfl ?_
    refine nx_gX6_kept C0 hh0 hh3 dX6_element_13 ?_
    refine nx_iload_n C0 1 dX6_element_16 rfl ?_
    obtain ⟨g5, h⟩ := nguard h
    refine nx_iald C0 nI_72 g5 dX6_element_17 ?_
    refine nx_iconst (v := 2) C0 dX6_element_18 (by decide) ?_
    refine nx_icmp_ne (tgt := 38) C0 dX6_element_19 (by decide) (fun q => ?_) (fun q => ?_)
    · have h := niff q h
      exact hfX6_element_b38 x1 x2 σ h
    · have h := nift q h
      refine nx_iload_n C0 2 dX6_element_22 rfl ?_
      refine nx_iconst (v := 0) C0 dX6_element_23 (by decide) ?_
      refine nx_aload_n C0 0 dX6_element_24 rfl ?_
      refine nx_gX6_size C0 hh0 hh4 dX6_element_25 ?_
      refine nx_iload_n C0 1 dX6_element_28 rfl ?_
      obtain ⟨g6, h⟩ := nguard h
      refine nx_iald C0 nI_76 g6 dX6_element_29 ?_
      refine nx_iconst (v := 1) C0 dX6_element_30 (by decide) ?_
      refine nx_isub C0 dX6_element_31 ?_
      obtain ⟨r8, c7, h⟩ := nbind h
      refine nx_cSi (n := 3) (As := [.int x2, .int (0 : Int32), .int ((σ 76 (x1).toNatClampNeg) - (1 : Int32))]) (st := [.ref (na B 63)]) C0 (mX6_isIn l D B hB x2 (0 : Int32) ((σ 76 (x1).toNatClampNeg) - (1 : Int32)) σ c7) gX6_element_X6_isIn rfl rfl rfl ndX6_isIn ⟨Nat.le_of_ble_eq_true rfl, Nat.le_of_ble_eq_true rfl⟩ rfl (Nat.le_of_ble_eq_true rfl) rfl dX6_element_32 ?_
      refine nx_if_ne (tgt := 42) C0 dX6_element_35 (by decide) (fun q => ?_) (fun q => ?_)
      · have h := niff q h
        refine nx_iconst (v := 0) C0 dX6_element_42 (by decide) ?_
        exact hfX6_element_b43 x1 x2 (0 : Int32) σ h
      · have h := nift q h
        exact hfX6_element_b38 x1 x2 σ h
  · have h := nift q h
    refine nx_iconst (v := 1) C0 dX6_element_8 (by decide) ?_
    refine nx_goto (tgt := 43) C0 dX6_element_9 (by decide) ?_
    exact hfX6_element_b43 x1 x2 (1 : Int32) σ h
def rmX6_copy : Room := { frames := 2, cells := 0, slots := 0, locals := 42 }
theorem ndX6_copy : yX6_copy.cls = RX6 ∧ yX6_copy.cls ≠ "java/lang/invoke/MethodHandle" ∧ yX6_copy.cls ≠ "java/lang/invoke/VarHandle" ∧ (parseMethodDescriptor yX6_copy.desc).map (fun d => d.parameters.length) = some 5 := by decide +kernel
set_option maxRecDepth 100000 in
set_option maxHeartbeats 4000000 in
theorem mX6_copy (l : Launch) (D : va_G) (B : nBT) (hB : nInj B) (x1 : Int32) (x2 : Int32) (x3 : Int32) (x4 : Int32) (x5 : Int32) (σ : nS) {r : Int32} {σ1 : nS} (h : fX6_copy x1 x2 x3 x4 x5 σ = some (r, σ1)) : nMi l D B yX6_copy wsX6_copy rmX6_copy [.ref (na B 63), .int x1, .int x2, .int x3, .int x4, .int x5] σ r σ1 := by
  refine nmet (cc := cX6_copy) (maxL := 8) (ret := (some .int)) (own := RX6) (av := [.ref (na B 63), .int x1, .int x2, .int x3, .int x4, .int x5]) (nQi D B r σ1) hB (by decide) rfl rfl (Nat.le_of_ble_eq_true rfl) (fun p e s m args below meth c C0 hr => ?_)
  have hh0 : ∀ w ∈ wsX60, w ∈ wsX6_copy := by decide +kernel
  have hh1 := C0.2.2.2.2.1 (Cond.fieldLink RX6 49 "NotInTheCoinModel" "element" "[I") (by decide +kernel)
  have hh2 := C0.2.2.2.2.1 (Cond.fieldLink RX6 34 "NotInTheCoinModel" "kept" "[I") (by decide +kernel)
  have hh3 := C0.2.2.2.2.1 (Cond.fieldLink RX6 43 "NotInTheCoinModel" "sort" "[I") (by decide +kernel)
  have hh4 := C0.2.2.2.2.1 (Cond.fieldLink RX6 46 "NotInTheCoinModel" "size" "[I") (by decide +kernel)
  have hfX6_copy_b147 : ∀ (s122 : Int32 → Int32 → Int32 → Int32 → Int32 → Int32 → nS → Option (Int32 × nS)) (hs122 : ∀ (a1 : Int32) (a2 : Int32) (a3 : Int32) (a4 : Int32) (a5 : Int32) (a6 : Int32) (σ : nS), s122 a1 a2 a3 a4 a5 a6 σ = some (r, σ1) → nJ p l e rmX6_copy s m args below meth c 0 0 (MQ below (nQi D B r σ1 s.heap.size) args s 0 0 (nA B s.heap.size)) D B 8 122 [(0, .ref (na B 63)), (1, .int a1), (2, .int a2), (3, .int a3), (4, .int a4), (5, .int a5), (6, .int a6)] [] σ) (a1 : Int32) (a2 : Int32) (a3 : Int32) (a4 : Int32) (a5 : Int32) (a6 : Int32) (z0 : Int32) (σ : nS) (h : fX6_copy_b147 s122 a1 a2 a3 a4 a5 a6 z0 σ = some (r, σ1)), nJ p l e rmX6_copy s m args below meth c 0 0 (MQ below (nQi D B r σ1 s.heap.size) args s 0 0 (nA B s.heap.size)) D B 8 147 [(0, .ref (na B 63)), (1, .int a1), (2, .int a2), (3, .int a3), (4, .int a4), (5, .int a5), (6, .int a6)] [.int z0] σ := by
    intro s122 hs122 a1 a2 a3 a4 a5 a6 z0 σ h
    rw [fX6_copy_b147] at h
    refine nx_istore (i := 7) (y := z0) (lv' := [(7, .int z0), (0, .ref (na B 63)), (1, .int a1), (2, .int a2), (3, .int a3), (4, .int a4), (5, .int a5), (6, .int a6)]) C0 dX6_copy_147 (by decide) rfl rfl ?_
    refine nx_aload_n C0 1 dX6_copy_149 rfl ?_
    refine nx_gX6_element C0 hh0 hh1 dX6_copy_150 ?_
    refine nx_bipush (v := 100) C0 dX6_copy_153 (by decide) ?_
    refine nx_iload_n C0 4 dX6_copy_155 rfl ?_
    refine nx_imul C0 dX6_copy_156 ?_
    refine nx_iload C0 5 dX6_copy_157 rfl ?_
    refine nx_iadd C0 dX6_copy_159 ?_
    refine nx_iload C0 0 dX6_copy_160 rfl ?_
    refine nx_iadd C0 dX6_copy_162 ?_
    refine nx_aload_n C0 1 dX6_copy_163 rfl ?_
    refine nx_gX6_element C0 hh0 hh1 dX6_copy_164 ?_
    refine nx_bipush (v := 100) C0 dX6_copy_167 (by decide) ?_
    refine nx_iload_n C0 2 dX6_copy_169 rfl ?_
    refine nx_imul C0 dX6_copy_170 ?_
    refine nx_iload_n C0 3 dX6_copy_171 rfl ?_
    refine nx_iadd C0 dX6_copy_172 ?_
    refine nx_iload C0 0 dX6_copy_173 rfl ?_
    refine nx_iadd C0 dX6_copy_175 ?_
    obtain ⟨g1, h⟩ := nguard h
    refine nx_iald C0 nI_77 g1 dX6_copy_176 ?_
    obtain ⟨g2, h⟩ := nguard h
    obtain ⟨t3, et3, h⟩ := nlet h
    refine nx_iast C0 nI_77 g2 dX6_copy_177 et3 ?_
    obtain ⟨v4, ev4, h⟩ := nlet h
    refine nx_iinc (v := v4) (lv' := [(6, .int v4), (7, .int z0), (0, .ref (na B 63)), (1, .int a1), (2, .int a2), (3, .int a3), (4, .int a4), (5, .int a5)]) C0 7 dX6_copy_178 rfl ev4 (by decide) rfl ?_
    refine nx_goto (tgt := 122) C0 dX6_copy_181 (by decide) ?_
    refine nx_lv (lv' := [(0, .ref (na B 63)), (1, .int a1), (2, .int a2), (3, .int a3), (4, .int a4), (5, .int a5), (6, .int v4)]) [2, 3, 4, 5, 6, 7, 0] rfl ?_
    exact hs122 a1 a2 a3 a4 a5 v4 t3 h
  have hfX6_copy_b122 : ∀  (n : Nat) (a1 : Int32) (a2 : Int32) (a3 : Int32) (a4 : Int32) (a5 : Int32) (a6 : Int32) (σ : nS) (h : fX6_copy_b122  n a1 a2 a3 a4 a5 a6 σ = some (r, σ1)), nJ p l e rmX6_copy s m args below meth c 0 0 (MQ below (nQi D B r σ1 s.heap.size) args s 0 0 (nA B s.heap.size)) D B 8 122 [(0, .ref (na B 63)), (1, .int a1), (2, .int a2), (3, .int a3), (4, .int a4), (5, .int a5), (6, .int a6)] [] σ := by
    intro  n
    induction n with
    | zero => intro a1 a2 a3 a4 a5 a6 σ h; cases h
    | succ n ih =>
        intro a1 a2 a3 a4 a5 a6 σ h
        rw [fX6_copy_b122] at h
        refine nx_iload C0 6 dX6_copy_122 rfl ?_
        refine nx_iload C0 5 dX6_copy_124 rfl ?_
        refine nx_icmp_ge (tgt := 184) C0 dX6_copy_126 (by decide) (fun q => ?_) (fun q => ?_)
        · have h := nift q h
          refine nx_iload C0 5 dX6_copy_184 rfl ?_
          exact nr_i2 C0 hr dX6_copy_186 h
        · have h := niff q h
          refine nx_iload_n C0 2 dX6_copy_129 rfl ?_
          refine nx_iload C0 4 dX6_copy_130 rfl ?_
          refine nx_icmp_le (tgt := 140) C0 dX6_copy_132 (by decide) (fun q => ?_) (fun q => ?_)
          · have h := nift q h
            refine nx_iload C0 5 dX6_copy_140 rfl ?_
            refine nx_iconst (v := 1) C0 dX6_copy_142 (by decide) ?_
            refine nx_isub C0 dX6_copy_143 ?_
            refine nx_iload C0 6 dX6_copy_144 rfl ?_
            refine nx_isub C0 dX6_copy_146 ?_
            exact hfX6_copy_b147 (fX6_copy_b122 n) ih a1 a2 a3 a4 a5 a6 ((a5 - (1 : Int32)) - a6) σ h
          · have h := niff q h
            refine nx_iload C0 6 dX6_copy_135 rfl ?_
            refine nx_goto (tgt := 147) C0 dX6_copy_137 (by decide) ?_
            exact hfX6_copy_b147 (fX6_copy_b122 n) ih a1 a2 a3 a4 a5 a6 a6 σ h
  refine nx_lv (lv' := [(0, .ref (na B 63)), (1, .int x1), (2, .int x2), (3, .int x3), (4, .int x4), (5, .int x5)]) [0, 1, 2, 3, 4, 5] rfl ?_
  rw [fX6_copy] at h
  refine nx_iload_n C0 1 dX6_copy_0 rfl ?_
  obtain ⟨r6, c5, h⟩ := nbind h
  refine nx_cSi (n := 1) (As := [.int x1]) (st := []) C0 (mX6_isShelf l D B hB x1 σ c5) gX6_copy_X6_isShelf rfl rfl rfl ndX6_isShelf ⟨Nat.le_of_ble_eq_true rfl, Nat.le_of_ble_eq_true rfl⟩ rfl (Nat.le_of_ble_eq_true rfl) rfl dX6_copy_1 ?_
  refine nx_if_eq (tgt := 14) C0 dX6_copy_4 (by decide) (fun q => ?_) (fun q => ?_)
  · have h := nift q h
    refine nx_iconst (v := -1) C0 dX6_copy_14 (by decide) ?_
    exact nr_i2 C0 hr dX6_copy_15 h
  · have h := niff q h
    refine nx_iload_n C0 3 dX6_copy_7 rfl ?_
    obtain ⟨r8, c7, h⟩ := nbind h
    refine nx_cSi (n := 1) (As := [.int x3]) (st := []) C0 (mX6_isShelf l D B hB x3 σ c7) gX6_copy_X6_isShelf rfl rfl rfl ndX6_isShelf ⟨Nat.le_of_ble_eq_true rfl, Nat.le_of_ble_eq_true rfl⟩ rfl (Nat.le_of_ble_eq_true rfl) rfl dX6_copy_8 ?_
    refine nx_if_ne (tgt := 16) C0 dX6_copy_11 (by decide) (fun q => ?_) (fun q => ?_)
    · have h := niff q h
      refine nx_aload_n C0 0 dX6_copy_16 rfl ?_
      refine nx_gX6_kept C0 hh0 hh2 dX6_copy_17 ?_
      refine nx_iload_n C0 1 dX6_copy_20 rfl ?_
      obtain ⟨g9, h⟩ := nguard h
      refine nx_iald C0 nI_72 g9 dX6_copy_21 ?_
      refine nx_if_eq (tgt := 34) C0 dX6_copy_22 (by decide) (fun q => ?_) (fun q => ?_)
      · have h := nift q h
        refine nx_bipush (v := -11) C0 dX6_copy_34 (by decide) ?_
        exact nr_i2 C0 hr dX6_copy_36 h
      · have h := niff q h
        refine nx_aload_n C0 0 dX6_copy_25 rfl ?_
        refine nx_gX6_kept C0 hh0 hh2 dX6_copy_26 ?_
        refine nx_iload_n C0 3 dX6_copy_29 rfl ?_
        obtain ⟨g10, h⟩ := nguard h
        refine nx_iald C0 nI_72 g10 dX6_copy_30 ?_
        refine nx_if_ne (tgt := 37) C0 dX6_copy_31 (by decide) (fun q => ?_) (fun q => ?_)
        · have h := niff q h
          refine nx_aload_n C0 0 dX6_copy_37 rfl ?_
          refine nx_gX6_kept C0 hh0 hh2 dX6_copy_38 ?_
          refine nx_iload_n C0 1 dX6_copy_41 rfl ?_
          obtain ⟨g11, h⟩ := nguard h
          refine nx_iald C0 nI_72 g11 dX6_copy_42 ?_
          refine nx_iconst (v := 2) C0 dX6_copy_43 (by decide) ?_
          refine nx_icmp_ne (tgt := 72) C0 dX6_copy_44 (by decide) (fun q => ?_) (fun q => ?_)
          · have h := niff q h
            refine nx_bipush (v := -12) C0 dX6_copy_72 (by decide) ?_
            exact nr_i2 C0 hr dX6_copy_74 h
          · have h := nift q h
            refine nx_aload_n C0 0 dX6_copy_47 rfl ?_
            refine nx_gX6_kept C0 hh0 hh2 dX6_copy_48 ?_
            refine nx_iload_n C0 3 dX6_copy_51 rfl ?_
            obtain ⟨g12, h⟩ := nguard h
            refine nx_iald C0 nI_72 g12 dX6_copy_52 ?_
            refine nx_iconst (v := 2) C0 dX6_copy_53 (by decide) ?_
            refine nx_icmp_ne (tgt := 72) C0 dX6_copy_54 (by decide) (fun q => ?_) (fun q => ?_)
            · have h := niff q h
              refine nx_bipush (v := -12) C0 dX6_copy_72 (by decide) ?_
              exact nr_i2 C0 hr dX6_copy_74 h
            · have h := nift q h
              refine nx_aload_n C0 0 dX6_copy_57 rfl ?_
              refine nx_gX6_sort C0 hh0 hh3 dX6_copy_58 ?_
              refine nx_iload_n C0 1 dX6_copy_61 rfl ?_
              obtain ⟨g13, h⟩ := nguard h
              refine nx_iald C0 nI_75 g13 dX6_copy_62 ?_
              refine nx_aload_n C0 0 dX6_copy_63 rfl ?_
              refine nx_gX6_sort C0 hh0 hh3 dX6_copy_64 ?_
              refine nx_iload_n C0 3 dX6_copy_67 rfl ?_
              obtain ⟨g14, h⟩ := nguard h
              refine nx_iald C0 nI_75 g14 dX6_copy_68 ?_
              refine nx_icmp_eq (tgt := 75) C0 dX6_copy_69 (by decide) (fun q => ?_) (fun q => ?_)
              · have h := nift q h
                refine nx_iload C0 5 dX6_copy_75 rfl ?_
                refine nx_if_lt (tgt := 116) C0 dX6_copy_77 (by decide) (fun q => ?_) (fun q => ?_)
                · have h := nift q h
                  refine nx_bipush (v := -13) C0 dX6_copy_116 (by decide) ?_
                  exact nr_i2 C0 hr dX6_copy_118 h
                · have h := niff q h
                  refine nx_iload_n C0 2 dX6_copy_80 rfl ?_
                  refine nx_if_lt (tgt := 116) C0 dX6_copy_81 (by decide) (fun q => ?_) (fun q => ?_)
                  · have h := nift q h
                    refine nx_bipush (v := -13) C0 dX6_copy_116 (by decide) ?_
                    exact nr_i2 C0 hr dX6_copy_118 h
                  · have h := niff q h
                    refine nx_iload C0 4 dX6_copy_84 rfl ?_
                    refine nx_if_lt (tgt := 116) C0 dX6_copy_86 (by decide) (fun q => ?_) (fun q => ?_)
                    · have h := nift q h
                      refine nx_bipush (v := -13) C0 dX6_copy_116 (by decide) ?_
                      exact nr_i2 C0 hr dX6_copy_118 h
                    · have h := niff q h
                      refine nx_iload C0 5 dX6_copy_89 rfl ?_
                      refine nx_aload_n C0 0 dX6_copy_91 rfl ?_
                      refine nx_gX6_size C0 hh0 hh4 dX6_copy_92 ?_
                      refine nx_iload_n C0 1 dX6_copy_95 rfl ?_
                      obtain ⟨g15, h⟩ := nguard h
                      refine nx_iald C0 nI_76 g15 dX6_copy_96 ?_
                      refine nx_iload_n C0 2 dX6_copy_97 rfl ?_
                      refine nx_isub C0 dX6_copy_98 ?_
                      refine nx_icmp_gt (tgt := 116) C0 dX6_copy_99 (by decide) (fun q => ?_) (fun q => ?_)
                      · have h := nift q h
                        refine nx_bipush (v := -13) C0 dX6_copy_116 (by decide) ?_
                        exact nr_i2 C0 hr dX6_copy_118 h
                      · have h := niff q h
                        refine nx_iload C0 5 dX6_copy_102 rfl ?_
                        refine nx_aload_n C0 0 dX6_copy_104 rfl ?_
                        refine nx_gX6_size C0 hh0 hh4 dX6_copy_105 ?_
                        refine nx_iload_n C0 3 dX6_copy_108 rfl ?_
                        obtain ⟨g16, h⟩ := nguard h
                        refine nx_iald C0 nI_76 g16 dX6_copy_109 ?_
                        refine nx_iload C0 4 dX6_copy_110 rfl ?_
                        refine nx_isub C0 dX6_copy_112 ?_
                        refine nx_icmp_le (tgt := 119) C0 dX6_copy_113 (by decide) (fun q => ?_) (fun q => ?_)
                        · have h := nift q h
                          refine nx_iconst (v := 0) C0 dX6_copy_119 (by decide) ?_
                          refine nx_istore (i := 6) (y := (0 : Int32)) (lv' := [(6, .int (0 : Int32)), (0, .ref (na B 63)), (1, .int x1), (2, .int x2), (3, .int x3), (4, .int x4), (5, .int x5)]) C0 dX6_copy_120 (by decide) rfl rfl ?_
                          refine nx_lv (lv' := [(0, .ref (na B 63)), (1, .int x1), (2, .int x2), (3, .int x3), (4, .int x4), (5, .int x5), (6, .int (0 : Int32))]) [1, 2, 3, 4, 5, 6, 0] rfl ?_
                          exact hfX6_copy_b122 4096 x1 x2 x3 x4 x5 (0 : Int32) σ h
                        · have h := niff q h
                          refine nx_bipush (v := -13) C0 dX6_copy_116 (by decide) ?_
                          exact nr_i2 C0 hr dX6_copy_118 h
              · have h := niff q h
                refine nx_bipush (v := -12) C0 dX6_copy_72 (by decide) ?_
                exact nr_i2 C0 hr dX6_copy_74 h
        · have h := nift q h
          refine nx_bipush (v := -11) C0 dX6_copy_34 (by decide) ?_
          exact nr_i2 C0 hr dX6_copy_36 h
    · have h := nift q h
      refine nx_iconst (v := -1) C0 dX6_copy_14 (by decide) ?_
      exact nr_i2 C0 hr dX6_copy_15 h
