def rmX5_has : Room := { frames := 0, cells := 0, slots := 0, locals := 0 }
theorem ndX5_has : yX5_has.cls ≠ "java/lang/invoke/MethodHandle" ∧ yX5_has.cls ≠ "java/lang/invoke/VarHandle" ∧ (parseMethodDescriptor yX5_has.desc).map (fun d => d.parameters.length) = some 2 := by decide +kernel
set_option maxRecDepth 100000 in
set_option maxHeartbeats 4000000 in
theorem mX5_has (l : Launch) (D : va_G) (B : nBT) (hB : nInj B) (x0 : Int32) (x1 : Int32) (σ : nS) {r : Int32}  (h : fX5_has x0 x1 σ = some r) : nMi l D B yX5_has wsX5_has rmX5_has [.int x0, .int x1] σ r σ := by
  refine nmet (cc := cX5_has) (maxL := 2) (ret := (some .boolean)) (own := RX5) (av := [.int x0, .int x1]) (nQi D B r σ) hB (by decide) rfl rfl (Nat.le_of_ble_eq_true rfl) (fun p e s m args below meth c C0 hr => ?_)
  refine nx_lv (lv' := [(0, .int x0), (1, .int x1)]) [0, 1] rfl ?_
  rw [fX5_has] at h
  refine nx_iload_n C0 0 dX5_has_0 rfl ?_
  refine nx_iload_n C0 1 dX5_has_1 rfl ?_
  refine nx_ishr C0 dX5_has_2 ?_
  refine nx_iconst (v := 1) C0 dX5_has_3 (by decide) ?_
  refine nx_iand C0 dX5_has_4 ?_
  refine nx_iconst (v := 1) C0 dX5_has_5 (by decide) ?_
  refine nx_icmp_ne (tgt := 13) C0 dX5_has_6 (by decide) (fun q => ?_) (fun q => ?_)
  · have h := niff q h
    refine nx_iconst (v := 0) C0 dX5_has_13 (by decide) ?_
    exact nr_z C0 hr (Or.inl rfl) dX5_has_14 h
  · have h := nift q h
    refine nx_iconst (v := 1) C0 dX5_has_9 (by decide) ?_
    refine nx_goto (tgt := 14) C0 dX5_has_10 (by decide) ?_
    exact nr_z C0 hr (Or.inr rfl) dX5_has_14 h
def rmX4_goodsHad : Room := { frames := 0, cells := 0, slots := 0, locals := 0 }
theorem ndX4_goodsHad : yX4_goodsHad.cls = RX4 ∧ yX4_goodsHad.cls ≠ "java/lang/invoke/MethodHandle" ∧ yX4_goodsHad.cls ≠ "java/lang/invoke/VarHandle" ∧ (parseMethodDescriptor yX4_goodsHad.desc).map (fun d => d.parameters.length) = some 1 := by decide +kernel
set_option maxRecDepth 100000 in
set_option maxHeartbeats 4000000 in
theorem mX4_goodsHad (l : Launch) (D : va_G) (B : nBT) (hB : nInj B) {k0 : Nat} (hk0 : nT k0) (x1 : Int32) (σ : nS) {r : Int32}  (h : fX4_goodsHad k0 x1 σ = some r) : nMi l D B yX4_goodsHad wsX4_goodsHad rmX4_goodsHad [.ref (na B k0), .int x1] σ r σ := by
  refine nmet (cc := cX4_goodsHad) (maxL := 4) (ret := (some .int)) (own := RX4) (av := [.ref (na B k0), .int x1]) (nQi D B r σ) hB (by decide) rfl rfl (Nat.le_of_ble_eq_true rfl) (fun p e s m args below meth c C0 hr => ?_)
  have hh0 : ∀ w ∈ wsX40, w ∈ wsX4_goodsHad := by decide +kernel
  have hh1 := C0.2.2.2.2.1 (Cond.fieldLink RX4 42 "NotInTheCoin$Town" "goods" "I") (by decide +kernel)
  have hh2 := C0.2.2.2.2.1 (Cond.fieldLink RX4 18 "NotInTheCoin$Town" "ownerOf" "[I") (by decide +kernel)
  have hfX4_goodsHad_b4 : ∀  (n : Nat) (k_0 : Nat) (hk_0 : nT k_0) (a1 : Int32) (a2 : Int32) (a3 : Int32) (h : fX4_goodsHad_b4  n k_0 a1 a2 a3 σ = some r), nJ p l e rmX4_goodsHad s m args below meth c 0 0 (MQ below (nQi D B r σ s.heap.size) args s 0 0 (nA B s.heap.size)) D B 4 4 [(0, .ref (na B k_0)), (1, .int a1), (2, .int a2), (3, .int a3)] [] σ := by
    intro  n
    induction n with
    | zero => intro k_0 hk_0 a1 a2 a3 h; cases h
    | succ n ih =>
        intro k_0 hk_0 a1 a2 a3 h
        rw [fX4_goodsHad_b4] at h
        refine nx_iload_n C0 3 dX4_goodsHad_4 rfl ?_
        refine nx_aload_n C0 0 dX4_goodsHad_5 rfl ?_
        refine nx_gX4_goods C0 hk_0 hh0 hh1 dX4_goodsHad_6 ?_
        refine nx_icmp_ge (tgt := 34) C0 dX4_goodsHad_9 (by decide) (fun q => ?_) (fun q => ?_)
        · have h := nift q h
          refine nx_iload_n C0 2 dX4_goodsHad_34 rfl ?_
          exact nr_i C0 hr dX4_goodsHad_35 h
        · have h := niff q h
          refine nx_aload_n C0 0 dX4_goodsHad_12 rfl ?_
          refine nx_gX4_ownerOf C0 hk_0 hh0 hh2 dX4_goodsHad_13 ?_
          refine nx_iload_n C0 3 dX4_goodsHad_16 rfl ?_
          obtain ⟨g1, h⟩ := nguard h
          refine nx_iald C0 (nT_a3 hk_0) g1 dX4_goodsHad_17 ?_
          refine nx_iload_n C0 1 dX4_goodsHad_18 rfl ?_
          refine nx_icmp_ne (tgt := 28) C0 dX4_goodsHad_19 (by decide) (fun q => ?_) (fun q => ?_)
          · have h := niff q h
            obtain ⟨v2, ev2, h⟩ := nlet h
            refine nx_iinc (v := v2) (lv' := [(3, .int v2), (0, .ref (na B k_0)), (1, .int a1), (2, .int a2)]) C0 3 dX4_goodsHad_28 rfl ev2 (by decide) rfl ?_
            refine nx_goto (tgt := 4) C0 dX4_goodsHad_31 (by decide) ?_
            refine nx_lv (lv' := [(0, .ref (na B k_0)), (1, .int a1), (2, .int a2), (3, .int v2)]) [1, 2, 3, 0] rfl ?_
            exact ih k_0 hk_0 a1 a2 v2 h
          · have h := nift q h
            refine nx_iload_n C0 2 dX4_goodsHad_22 rfl ?_
            refine nx_iconst (v := 1) C0 dX4_goodsHad_23 (by decide) ?_
            refine nx_iload_n C0 3 dX4_goodsHad_24 rfl ?_
            refine nx_ishl C0 dX4_goodsHad_25 ?_
            refine nx_ior C0 dX4_goodsHad_26 ?_
            obtain ⟨v3, ev3, h⟩ := nlet h
            refine nx_istore_n (i := 2) (y := v3) (lv' := [(2, .int v3), (0, .ref (na B k_0)), (1, .int a1), (3, .int a3)]) C0 dX4_goodsHad_27 rfl (by decide) ev3 rfl ?_
            obtain ⟨v4, ev4, h⟩ := nlet h
            refine nx_iinc (v := v4) (lv' := [(3, .int v4), (2, .int v3), (0, .ref (na B k_0)), (1, .int a1)]) C0 3 dX4_goodsHad_28 rfl ev4 (by decide) rfl ?_
            refine nx_goto (tgt := 4) C0 dX4_goodsHad_31 (by decide) ?_
            refine nx_lv (lv' := [(0, .ref (na B k_0)), (1, .int a1), (2, .int v3), (3, .int v4)]) [2, 3, 1, 0] rfl ?_
            exact ih k_0 hk_0 a1 v3 v4 h
  refine nx_lv (lv' := [(0, .ref (na B k0)), (1, .int x1)]) [0, 1] rfl ?_
  rw [fX4_goodsHad] at h
  refine nx_iconst (v := 0) C0 dX4_goodsHad_0 (by decide) ?_
  refine nx_istore_n (i := 2) (y := (0 : Int32)) (lv' := [(2, .int (0 : Int32)), (0, .ref (na B k0)), (1, .int x1)]) C0 dX4_goodsHad_1 rfl (by decide) rfl rfl ?_
  refine nx_iconst (v := 0) C0 dX4_goodsHad_2 (by decide) ?_
  refine nx_istore_n (i := 3) (y := (0 : Int32)) (lv' := [(3, .int (0 : Int32)), (2, .int (0 : Int32)), (0, .ref (na B k0)), (1, .int x1)]) C0 dX4_goodsHad_3 rfl (by decide) rfl rfl ?_
  refine nx_lv (lv' := [(0, .ref (na B k0)), (1, .int x1), (2, .int (0 : Int32)), (3, .int (0 : Int32))]) [2, 3, 1, 0] rfl ?_
  exact hfX4_goodsHad_b4 4096 k0 hk0 x1 (0 : Int32) (0 : Int32) h
def rmX5_worthOf : Room := { frames := 0, cells := 0, slots := 0, locals := 0 }
theorem ndX5_worthOf : yX5_worthOf.cls ≠ "java/lang/invoke/MethodHandle" ∧ yX5_worthOf.cls ≠ "java/lang/invoke/VarHandle" ∧ (parseMethodDescriptor yX5_worthOf.desc).map (fun d => d.parameters.length) = some 4 := by decide +kernel
set_option maxRecDepth 100000 in
set_option maxHeartbeats 4000000 in
theorem mX5_worthOf (l : Launch) (D : va_G) (B : nBT) (hB : nInj B) (x0 : Int32) (x1 : Int32) (x2 : Int32) (x3 : Int32) (σ : nS) {r : Int32}  (h : fX5_worthOf x0 x1 x2 x3 σ = some r) : nMi l D B yX5_worthOf wsX5_worthOf rmX5_worthOf [.int x0, .int x1, .int x2, .int x3] σ r σ := by
  refine nmet (cc := cX5_worthOf) (maxL := 9) (ret := (some .int)) (own := RX5) (av := [.int x0, .int x1, .int x2, .int x3]) (nQi D B r σ) hB (by decide) rfl rfl (Nat.le_of_ble_eq_true rfl) (fun p e s m args below meth c C0 hr => ?_)
  refine nx_lv (lv' := [(0, .int x0), (1, .int x1), (2, .int x2), (3, .int x3)]) [0, 1, 2, 3] rfl ?_
  rw [fX5_worthOf] at h
  refine nx_iload_n C0 1 dX5_worthOf_0 rfl ?_
  refine nx_iconst (v := 2) C0 dX5_worthOf_1 (by decide) ?_
  refine nx_iadd C0 dX5_worthOf_2 ?_
  obtain ⟨v1, ev1, h⟩ := nlet h
  refine nx_istore (i := 4) (y := v1) (lv' := [(4, .int v1), (0, .int x0), (1, .int x1), (2, .int x2), (3, .int x3)]) C0 dX5_worthOf_3 (by decide) ev1 rfl ?_
  refine nx_iload C0 0 dX5_worthOf_5 rfl ?_
  refine nx_iload_n C0 3 dX5_worthOf_7 rfl ?_
  refine nx_iconst (v := 2) C0 dX5_worthOf_8 (by decide) ?_
  refine nx_idiv C0 dX5_worthOf_9 (by decide) ?_
  refine nx_iadd C0 dX5_worthOf_10 ?_
  refine nx_iload_n C0 4 dX5_worthOf_11 rfl ?_
  refine nx_iconst (v := 3) C0 dX5_worthOf_12 (by decide) ?_
  refine nx_irem C0 dX5_worthOf_13 (by decide) ?_
  refine nx_isub C0 dX5_worthOf_14 ?_
  obtain ⟨v2, ev2, h⟩ := nlet h
  refine nx_istore (i := 5) (y := v2) (lv' := [(5, .int v2), (4, .int v1), (0, .int x0), (1, .int x1), (2, .int x2), (3, .int x3)]) C0 dX5_worthOf_15 (by decide) ev2 rfl ?_
  refine nx_iload C0 0 dX5_worthOf_17 rfl ?_
  refine nx_iconst (v := 2) C0 dX5_worthOf_19 (by decide) ?_
  refine nx_idiv C0 dX5_worthOf_20 (by decide) ?_
  obtain ⟨v3, ev3, h⟩ := nlet h
  refine nx_istore (i := 6) (y := v3) (lv' := [(6, .int v3), (5, .int v2), (4, .int v1), (0, .int x0), (1, .int x1), (2, .int x2), (3, .int x3)]) C0 dX5_worthOf_21 (by decide) ev3 rfl ?_
  refine nx_iload_n C0 5 dX5_worthOf_23 rfl ?_
  refine nx_istore (i := 7) (y := x2) (lv' := [(7, .int x2), (6, .int v3), (5, .int v2), (4, .int v1), (0, .int x0), (1, .int x1), (2, .int x2), (3, .int x3)]) C0 dX5_worthOf_24 (by decide) rfl rfl ?_
  refine nx_iconst (v := 2) C0 dX5_worthOf_26 (by decide) ?_
  refine nx_iload C0 0 dX5_worthOf_27 rfl ?_
  refine nx_imul C0 dX5_worthOf_29 ?_
  refine nx_iload_n C0 7 dX5_worthOf_30 rfl ?_
  refine nx_iconst (v := 2) C0 dX5_worthOf_31 (by decide) ?_
  refine nx_irem C0 dX5_worthOf_32 (by decide) ?_
  refine nx_isub C0 dX5_worthOf_33 ?_
  obtain ⟨v4, ev4, h⟩ := nlet h
  refine nx_istore (i := 8) (y := v4) (lv' := [(8, .int v4), (7, .int x2), (6, .int v3), (5, .int v2), (4, .int v1), (0, .int x0), (1, .int x1), (2, .int x2), (3, .int x3)]) C0 dX5_worthOf_34 (by decide) ev4 rfl ?_
  refine nx_iload_n C0 5 dX5_worthOf_36 rfl ?_
  by_cases q5 : x0 = 1
  · have h := nift q5 h
    refine nx_tabIn (tgt := 80) C0 1 dX5_worthOf_37 (by rw [q5]; rfl) (by decide) (by decide) rfl (by decide) ?_
    refine nx_bipush (v := 6) C0 dX5_worthOf_80 (by decide) ?_
    refine nx_iload_n C0 6 dX5_worthOf_82 rfl ?_
    refine nx_iadd C0 dX5_worthOf_83 ?_
    exact nr_i C0 hr dX5_worthOf_84 h
  have h := niff q5 h
  by_cases q6 : x0 = 2
  · have h := nift q6 h
    refine nx_tabIn (tgt := 85) C0 2 dX5_worthOf_37 (by rw [q6]; rfl) (by decide) (by decide) rfl (by decide) ?_
    refine nx_iload C0 3 dX5_worthOf_85 rfl ?_
    exact nr_i C0 hr dX5_worthOf_87 h
  have h := niff q6 h
  by_cases q7 : x0 = 3
  · have h := nift q7 h
    refine nx_tabIn (tgt := 88) C0 3 dX5_worthOf_37 (by rw [q7]; rfl) (by decide) (by decide) rfl (by decide) ?_
    refine nx_iload C0 1 dX5_worthOf_88 rfl ?_
    exact nr_i C0 hr dX5_worthOf_90 h
  have h := niff q7 h
  by_cases q8 : x0 = 4
  · have h := nift q8 h
    refine nx_tabIn (tgt := 91) C0 4 dX5_worthOf_37 (by rw [q8]; rfl) (by decide) (by decide) rfl (by decide) ?_
    refine nx_iload C0 0 dX5_worthOf_91 rfl ?_
    refine nx_if_ge (tgt := 100) C0 dX5_worthOf_93 (by decide) (fun q => ?_) (fun q => ?_)
    · have h := nift q h
      refine nx_iload C0 0 dX5_worthOf_100 rfl ?_
      exact nr_i C0 hr dX5_worthOf_102 h
    · have h := niff q h
      refine nx_iconst (v := 0) C0 dX5_worthOf_96 (by decide) ?_
      refine nx_goto (tgt := 102) C0 dX5_worthOf_97 (by decide) ?_
      exact nr_i C0 hr dX5_worthOf_102 h
  have h := niff q8 h
  by_cases q9 : x0 = 5
  · have h := nift q9 h
    refine nx_tabIn (tgt := 103) C0 5 dX5_worthOf_37 (by rw [q9]; rfl) (by decide) (by decide) rfl (by decide) ?_
    refine nx_bipush (v := 9) C0 dX5_worthOf_103 (by decide) ?_
    refine nx_iload_n C0 7 dX5_worthOf_105 rfl ?_
    refine nx_isub C0 dX5_worthOf_106 ?_
    exact nr_i C0 hr dX5_worthOf_107 h
  have h := niff q9 h
  by_cases q10 : x0 = 6
  · have h := nift q10 h
    refine nx_tabIn (tgt := 108) C0 6 dX5_worthOf_37 (by rw [q10]; rfl) (by decide) (by decide) rfl (by decide) ?_
    refine nx_iload C0 2 dX5_worthOf_108 rfl ?_
    exact nr_i C0 hr dX5_worthOf_110 h
  have h := niff q10 h
  by_cases q11 : x0 = 7
  · have h := nift q11 h
    refine nx_tabIn (tgt := 111) C0 7 dX5_worthOf_37 (by rw [q11]; rfl) (by decide) (by decide) rfl (by decide) ?_
    refine nx_iload C0 2 dX5_worthOf_111 rfl ?_
    refine nx_iload_n C0 6 dX5_worthOf_113 rfl ?_
    refine nx_iadd C0 dX5_worthOf_114 ?_
    refine nx_iconst (v := 3) C0 dX5_worthOf_115 (by decide) ?_
    refine nx_iadd C0 dX5_worthOf_116 ?_
    exact nr_i C0 hr dX5_worthOf_117 h
  have h := niff q11 h
  have q5n := nne q5 (z := 1) rfl
  have q6n := nne q6 (z := 2) rfl
  have q7n := nne q7 (z := 3) rfl
  have q8n := nne q8 (z := 4) rfl
  have q9n := nne q9 (z := 5) rfl
  have q10n := nne q10 (z := 6) rfl
  have q11n := nne q11 (z := 7) rfl
  refine nx_tabOut (tgt := 118) C0 dX5_worthOf_37 (by omega) (by decide) ?_
  refine nx_iload C0 4 dX5_worthOf_118 rfl ?_
  exact nr_i C0 hr dX5_worthOf_120 h
def rmX4_takenFor : Room := { frames := 1, cells := 0, slots := 0, locals := 28 }
theorem ndX4_takenFor : yX4_takenFor.cls = RX4 ∧ yX4_takenFor.cls ≠ "java/lang/invoke/MethodHandle" ∧ yX4_takenFor.cls ≠ "java/lang/invoke/VarHandle" ∧ (parseMethodDescriptor yX4_takenFor.desc).map (fun d => d.parameters.length) = some 2 := by decide +kernel
set_option maxRecDepth 100000 in
set_option maxHeartbeats 4000000 in
theorem mX4_takenFor (l : Launch) (D : va_G) (B : nBT) (hB : nInj B) {k0 : Nat} (hk0 : nT k0) (x1 : Int32) (x2 : Int32) (σ : nS) {r : Int32}  (h : fX4_takenFor k0 x1 x2 σ = some r) : nMi l D B yX4_takenFor wsX4_takenFor rmX4_takenFor [.ref (na B k0), .int x1, .int x2] σ r σ := by
  refine nmet (cc := cX4_takenFor) (maxL := 8) (ret := (some .int)) (own := RX4) (av := [.ref (na B k0), .int x1, .int x2]) (nQi D B r σ) hB (by decide) rfl rfl (Nat.le_of_ble_eq_true rfl) (fun p e s m args below meth c C0 hr => ?_)
  have hh0 : ∀ w ∈ wsX40, w ∈ wsX4_takenFor := by decide +kernel
  have hh1 := C0.2.2.2.2.1 (Cond.fieldLink RX4 9 "NotInTheCoin$Town" "kindOf" "[I") (by decide +kernel)
  have hh2 := C0.2.2.2.2.1 (Cond.fieldLink RX4 15 "NotInTheCoin$Town" "figureOf" "[I") (by decide +kernel)
  have hh3 := C0.2.2.2.2.1 (Cond.fieldLink RX4 55 "NotInTheCoin$Town" "week" "I") (by decide +kernel)
  have hh4 := C0.2.2.2.2.1 (Cond.static yX5_worthOf) (by decide +kernel)
  have hh5 := C0.2.2.2.2.1 (Cond.initialized RX5) (by decide +kernel)
  have hh6 := C0.2.2.2.2.1 (Cond.fieldLink RX4 42 "NotInTheCoin$Town" "goods" "I") (by decide +kernel)
  have hh7 := C0.2.2.2.2.1 (Cond.fieldLink RX4 33 "NotInTheCoin$Town" "classOf" "[I") (by decide +kernel)
  have hh8 := C0.2.2.2.2.1 (Cond.fieldLink RX4 21 "NotInTheCoin$Town" "tasteOf" "[I") (by decide +kernel)
  have hfX4_takenFor_b75 : ∀ (s35 : Nat → Int32 → Int32 → Int32 → Int32 → Int32 → nS → Option Int32) (hs35 : ∀ (k_0 : Nat) (hk_0 : nT k_0) (a2 : Int32) (a3 : Int32) (a4 : Int32) (a5 : Int32) (a6 : Int32), s35 k_0 a2 a3 a4 a5 a6 σ = some r → nJ p l e rmX4_takenFor s m args below meth c 0 0 (MQ below (nQi D B r σ s.heap.size) args s 0 0 (nA B s.heap.size)) D B 8 35 [(0, .ref (na B k_0)), (2, .int a2), (3, .int a3), (4, .int a4), (5, .int a5), (6, .int a6)] [] σ) (k_0 : Nat) (hk_0 : nT k_0) (a2 : Int32) (a3 : Int32) (a4 : Int32) (a5 : Int32) (a6 : Int32) (z0 : Int32) (h : fX4_takenFor_b75 s35 k_0 a2 a3 a4 a5 a6 z0 σ = some r), nJ p l e rmX4_takenFor s m args below meth c 0 0 (MQ below (nQi D B r σ s.heap.size) args s 0 0 (nA B s.heap.size)) D B 8 75 [(0, .ref (na B k_0)), (2, .int a2), (3, .int a3), (4, .int a4), (5, .int a5), (6, .int a6)] [.int z0] σ := by
    intro s35 hs35 k_0 hk_0 a2 a3 a4 a5 a6 z0 h
    rw [fX4_takenFor_b75] at h
    refine nx_istore (i := 7) (y := z0) (lv' := [(7, .int z0), (0, .ref (na B k_0)), (2, .int a2), (3, .int a3), (4, .int a4), (5, .int a5), (6, .int a6)]) C0 dX4_takenFor_75 (by decide) rfl rfl ?_
    refine nx_iload C0 0 dX4_takenFor_77 rfl ?_
    refine nx_if_ne (tgt := 118) C0 dX4_takenFor_79 (by decide) (fun q => ?_) (fun q => ?_)
    · have h := niff q h
      obtain ⟨v1, ev1, h⟩ := nlet h
      refine nx_iinc (v := v1) (lv' := [(6, .int v1), (7, .int z0), (0, .ref (na B k_0)), (2, .int a2), (3, .int a3), (4, .int a4), (5, .int a5)]) C0 6 dX4_takenFor_118 rfl ev1 (by decide) rfl ?_
      refine nx_goto (tgt := 35) C0 dX4_takenFor_121 (by decide) ?_
      refine nx_lv (lv' := [(0, .ref (na B k_0)), (2, .int a2), (3, .int a3), (4, .int a4), (5, .int a5), (6, .int v1)]) [2, 3, 4, 5, 6, 0] rfl ?_
      exact hs35 k_0 hk_0 a2 a3 a4 a5 v1 h
    · have h := nift q h
      refine nx_aload_n C0 1 dX4_takenFor_82 rfl ?_
      refine nx_gX4_kindOf C0 hk_0 hh0 hh1 dX4_takenFor_83 ?_
      refine nx_iload C0 6 dX4_takenFor_86 rfl ?_
      obtain ⟨g2, h⟩ := nguard h
      refine nx_iald C0 (nT_a1 hk_0) g2 dX4_takenFor_88 ?_
      refine nx_aload_n C0 1 dX4_takenFor_89 rfl ?_
      refine nx_gX4_figureOf C0 hk_0 hh0 hh2 dX4_takenFor_90 ?_
      refine nx_iload C0 6 dX4_takenFor_93 rfl ?_
      obtain ⟨g3, h⟩ := nguard h
      refine nx_iald C0 (nT_a2 hk_0) g3 dX4_takenFor_95 ?_
      refine nx_iload_n C0 3 dX4_takenFor_96 rfl ?_
      refine nx_aload_n C0 1 dX4_takenFor_97 rfl ?_
      refine nx_gX4_week C0 hk_0 hh0 hh3 dX4_takenFor_98 ?_
      obtain ⟨r5, c4, h⟩ := nbind h
      refine nx_cNi (n := 4) (As := [.int (σ (k_0 + 1) (a6).toNatClampNeg), .int (σ (k_0 + 2) (a6).toNatClampNeg), .int a3, .int (σ k_0 12)]) (st := []) C0 (mX5_worthOf l D B hB (σ (k_0 + 1) (a6).toNatClampNeg) (σ (k_0 + 2) (a6).toNatClampNeg) a3 (σ k_0 12) σ c4) gX4_takenFor_X5_worthOf_n91 (by decide +kernel) hh4 hh5 rfl rfl rfl ndX5_worthOf ⟨Nat.le_of_ble_eq_true rfl, Nat.le_of_ble_eq_true rfl⟩ rfl (Nat.le_of_ble_eq_true rfl) rfl dX4_takenFor_101 ?_
      refine nx_iload C0 4 dX4_takenFor_104 rfl ?_
      refine nx_icmp_lt (tgt := 118) C0 dX4_takenFor_106 (by decide) (fun q => ?_) (fun q => ?_)
      · have h := nift q h
        obtain ⟨v6, ev6, h⟩ := nlet h
        refine nx_iinc (v := v6) (lv' := [(6, .int v6), (7, .int z0), (0, .ref (na B k_0)), (2, .int a2), (3, .int a3), (4, .int a4), (5, .int a5)]) C0 6 dX4_takenFor_118 rfl ev6 (by decide) rfl ?_
        refine nx_goto (tgt := 35) C0 dX4_takenFor_121 (by decide) ?_
        refine nx_lv (lv' := [(0, .ref (na B k_0)), (2, .int a2), (3, .int a3), (4, .int a4), (5, .int a5), (6, .int v6)]) [2, 3, 4, 5, 6, 0] rfl ?_
        exact hs35 k_0 hk_0 a2 a3 a4 a5 v6 h
      · have h := niff q h
        refine nx_iload C0 5 dX4_takenFor_109 rfl ?_
        refine nx_iconst (v := 1) C0 dX4_takenFor_111 (by decide) ?_
        refine nx_iload C0 6 dX4_takenFor_112 rfl ?_
        refine nx_ishl C0 dX4_takenFor_114 ?_
        refine nx_ior C0 dX4_takenFor_115 ?_
        obtain ⟨v7, ev7, h⟩ := nlet h
        refine nx_istore (i := 5) (y := v7) (lv' := [(5, .int v7), (7, .int z0), (0, .ref (na B k_0)), (2, .int a2), (3, .int a3), (4, .int a4), (6, .int a6)]) C0 dX4_takenFor_116 (by decide) ev7 rfl ?_
        obtain ⟨v8, ev8, h⟩ := nlet h
        refine nx_iinc (v := v8) (lv' := [(6, .int v8), (5, .int v7), (7, .int z0), (0, .ref (na B k_0)), (2, .int a2), (3, .int a3), (4, .int a4)]) C0 6 dX4_takenFor_118 rfl ev8 (by decide) rfl ?_
        refine nx_goto (tgt := 35) C0 dX4_takenFor_121 (by decide) ?_
        refine nx_lv (lv' := [(0, .ref (na B k_0)), (2, .int a2), (3, .int a3), (4, .int a4), (5, .int v7), (6, .int v8)]) [3, 4, 5, 6, 1, 0] rfl ?_
        exact hs35 k_0 hk_0 a2 a3 a4 v7 v8 h
  have hfX4_takenFor_b35 : ∀  (n : Nat) (k_0 : Nat) (hk_0 : nT k_0) (a2 : Int32) (a3 : Int32) (a4 : Int32) (a5 : Int32) (a6 : Int32) (h : fX4_takenFor_b35  n k_0 a2 a3 a4 a5 a6 σ = some r), nJ p l e rmX4_takenFor s m args below meth c 0 0 (MQ below (nQi D B r σ s.heap.size) args s 0 0 (nA B s.heap.size)) D B 8 35 [(0, .ref (na B k_0)), (2, .int a2), (3, .int a3), (4, .int a4), (5, .int a5), (6, .int a6)] [] σ := by
    intro  n
    induction n with
    | zero => intro k_0 hk_0 a2 a3 a4 a5 a6 h; cases h
    | succ n ih =>
        intro k_0 hk_0 a2 a3 a4 a5 a6 h
        rw [fX4_takenFor_b35] at h
        refine nx_iload C0 5 dX4_takenFor_35 rfl ?_
        refine nx_aload_n C0 0 dX4_takenFor_37 rfl ?_
        refine nx_gX4_goods C0 hk_0 hh0 hh6 dX4_takenFor_38 ?_
        refine nx_icmp_ge (tgt := 124) C0 dX4_takenFor_41 (by decide) (fun q => ?_) (fun q => ?_)
        · have h := nift q h
          refine nx_iload C0 4 dX4_takenFor_124 rfl ?_
          exact nr_i C0 hr dX4_takenFor_126 h
        · have h := niff q h
          refine nx_aload_n C0 0 dX4_takenFor_44 rfl ?_
          refine nx_gX4_classOf C0 hk_0 hh0 hh7 dX4_takenFor_45 ?_
          refine nx_aload_n C0 0 dX4_takenFor_48 rfl ?_
          refine nx_gX4_kindOf C0 hk_0 hh0 hh1 dX4_takenFor_49 ?_
          refine nx_iload C0 5 dX4_takenFor_52 rfl ?_
          obtain ⟨g9, h⟩ := nguard h
          refine nx_iald C0 (nT_a1 hk_0) g9 dX4_takenFor_54 ?_
          obtain ⟨g10, h⟩ := nguard h
          refine nx_iald C0 (nT_a8 hk_0) g10 dX4_takenFor_55 ?_
          refine nx_aload_n C0 0 dX4_takenFor_56 rfl ?_
          refine nx_gX4_classOf C0 hk_0 hh0 hh7 dX4_takenFor_57 ?_
          refine nx_aload_n C0 0 dX4_takenFor_60 rfl ?_
          refine nx_gX4_kindOf C0 hk_0 hh0 hh1 dX4_takenFor_61 ?_
          refine nx_iload_n C0 1 dX4_takenFor_64 rfl ?_
          obtain ⟨g11, h⟩ := nguard h
          refine nx_iald C0 (nT_a1 hk_0) g11 dX4_takenFor_65 ?_
          obtain ⟨g12, h⟩ := nguard h
          refine nx_iald C0 (nT_a8 hk_0) g12 dX4_takenFor_66 ?_
          refine nx_icmp_ne (tgt := 74) C0 dX4_takenFor_67 (by decide) (fun q => ?_) (fun q => ?_)
          · have h := niff q h
            refine nx_iconst (v := 0) C0 dX4_takenFor_74 (by decide) ?_
            exact hfX4_takenFor_b75 (fX4_takenFor_b35 n) ih k_0 hk_0 a2 a3 a4 a5 a6 (0 : Int32) h
          · have h := nift q h
            refine nx_iconst (v := 1) C0 dX4_takenFor_70 (by decide) ?_
            refine nx_goto (tgt := 75) C0 dX4_takenFor_71 (by decide) ?_
            exact hfX4_takenFor_b75 (fX4_takenFor_b35 n) ih k_0 hk_0 a2 a3 a4 a5 a6 (1 : Int32) h
  refine nx_lv (lv' := [(0, .ref (na B k0)), (1, .int x1), (2, .int x2)]) [0, 1, 2] rfl ?_
  rw [fX4_takenFor] at h
  refine nx_aload_n C0 0 dX4_takenFor_0 rfl ?_
  refine nx_gX4_tasteOf C0 hk0 hh0 hh8 dX4_takenFor_1 ?_
  refine nx_iload_n C0 1 dX4_takenFor_4 rfl ?_
  obtain ⟨g13, h⟩ := nguard h
  refine nx_iald C0 (nT_a4 hk0) g13 dX4_takenFor_5 ?_
  obtain ⟨v14, ev14, h⟩ := nlet h
  refine nx_istore_n (i := 3) (y := v14) (lv' := [(3, .int v14), (0, .ref (na B k0)), (1, .int x1), (2, .int x2)]) C0 dX4_takenFor_6 rfl (by decide) ev14 rfl ?_
  refine nx_aload_n C0 1 dX4_takenFor_7 rfl ?_
  refine nx_gX4_kindOf C0 hk0 hh0 hh1 dX4_takenFor_8 ?_
  refine nx_iload_n C0 3 dX4_takenFor_11 rfl ?_
  obtain ⟨g15, h⟩ := nguard h
  refine nx_iald C0 (nT_a1 hk0) g15 dX4_takenFor_12 ?_
  refine nx_aload_n C0 1 dX4_takenFor_13 rfl ?_
  refine nx_gX4_figureOf C0 hk0 hh0 hh2 dX4_takenFor_14 ?_
  refine nx_iload_n C0 3 dX4_takenFor_17 rfl ?_
  obtain ⟨g16, h⟩ := nguard h
  refine nx_iald C0 (nT_a2 hk0) g16 dX4_takenFor_18 ?_
  refine nx_iload_n C0 0 dX4_takenFor_19 rfl ?_
  refine nx_aload_n C0 1 dX4_takenFor_20 rfl ?_
  refine nx_gX4_week C0 hk0 hh0 hh3 dX4_takenFor_21 ?_
  obtain ⟨r18, c17, h⟩ := nbind h
  refine nx_cNi (n := 4) (As := [.int (σ (k0 + 1) (x2).toNatClampNeg), .int (σ (k0 + 2) (x2).toNatClampNeg), .int v14, .int (σ k0 12)]) (st := []) C0 (mX5_worthOf l D B hB (σ (k0 + 1) (x2).toNatClampNeg) (σ (k0 + 2) (x2).toNatClampNeg) v14 (σ k0 12) σ c17) gX4_takenFor_X5_worthOf_n91 (by decide +kernel) hh4 hh5 rfl rfl rfl ndX5_worthOf ⟨Nat.le_of_ble_eq_true rfl, Nat.le_of_ble_eq_true rfl⟩ rfl (Nat.le_of_ble_eq_true rfl) rfl dX4_takenFor_24 ?_
  refine nx_istore (i := 4) (y := r18) (lv' := [(4, .int r18), (3, .int v14), (0, .ref (na B k0)), (1, .int x1), (2, .int x2)]) C0 dX4_takenFor_27 (by decide) rfl rfl ?_
  refine nx_iconst (v := 0) C0 dX4_takenFor_29 (by decide) ?_
  refine nx_istore (i := 5) (y := (0 : Int32)) (lv' := [(5, .int (0 : Int32)), (4, .int r18), (3, .int v14), (0, .ref (na B k0)), (1, .int x1), (2, .int x2)]) C0 dX4_takenFor_30 (by decide) rfl rfl ?_
  refine nx_iconst (v := 0) C0 dX4_takenFor_32 (by decide) ?_
  refine nx_istore (i := 6) (y := (0 : Int32)) (lv' := [(6, .int (0 : Int32)), (5, .int (0 : Int32)), (4, .int r18), (3, .int v14), (0, .ref (na B k0)), (1, .int x1), (2, .int x2)]) C0 dX4_takenFor_33 (by decide) rfl rfl ?_
  refine nx_lv (lv' := [(0, .ref (na B k0)), (2, .int x2), (3, .int v14), (4, .int r18), (5, .int (0 : Int32)), (6, .int (0 : Int32))]) [4, 6, 3, 2, 1, 0] rfl ?_
  exact hfX4_takenFor_b35 4096 k0 hk0 x2 v14 r18 (0 : Int32) (0 : Int32) h
def rmX4_payers : Room := { frames := 2, cells := 0, slots := 0, locals := 55 }
theorem ndX4_payers : yX4_payers.cls = RX4 ∧ yX4_payers.cls ≠ "java/lang/invoke/MethodHandle" ∧ yX4_payers.cls ≠ "java/lang/invoke/VarHandle" ∧ (parseMethodDescriptor yX4_payers.desc).map (fun d => d.parameters.length) = some 1 := by decide +kernel
set_option maxRecDepth 100000 in
set_option maxHeartbeats 4000000 in
theorem mX4_payers (l : Launch) (D : va_G) (B : nBT) (hB : nInj B) {k0 : Nat} (hk0 : nT k0) (x1 : Int32) (σ : nS) {r : Int32}  (h : fX4_payers k0 x1 σ = some r) : nMi l D B yX4_payers wsX4_payers rmX4_payers [.ref (na B k0), .int x1] σ r σ := by
  refine nmet (cc := cX4_payers) (maxL := 2) (ret := (some .int)) (own := RX4) (av := [.ref (na B k0), .int x1]) (nQi D B r σ) hB (by decide) rfl rfl (Nat.le_of_ble_eq_true rfl) (fun p e s m args below meth c C0 hr => ?_)
  have hh0 : ∀ w ∈ wsX40, w ∈ wsX4_payers := by decide +kernel
  have hh1 := C0.2.2.2.2.1 (Cond.fieldLink RX4 52 "NotInTheCoin$Town" "open" "I") (by decide +kernel)
  have hh2 := C0.2.2.2.2.1 (Cond.static yX5_has) (by decide +kernel)
  have hh3 := C0.2.2.2.2.1 (Cond.initialized RX5) (by decide +kernel)
  have hh4 := C0.2.2.2.2.1 (Cond.fieldLink RX4 27 "NotInTheCoin$Town" "debtorOf" "[I") (by decide +kernel)
  have hh5 := C0.2.2.2.2.1 (Cond.fieldLink RX4 24 "NotInTheCoin$Town" "lenderOf" "[I") (by decide +kernel)
  have hh6 := C0.2.2.2.2.1 (Cond.fieldLink RX4 30 "NotInTheCoin$Town" "goodsOf" "[I") (by decide +kernel)
  refine nx_lv (lv' := [(0, .ref (na B k0)), (1, .int x1)]) [0, 1] rfl ?_
  rw [fX4_payers] at h
  refine nx_aload_n C0 0 dX4_payers_0 rfl ?_
  refine nx_gX4_open C0 hk0 hh0 hh1 dX4_payers_1 ?_
  refine nx_iload_n C0 1 dX4_payers_4 rfl ?_
  obtain ⟨r2, c1, h⟩ := nbind h
  refine nx_cNi (n := 2) (As := [.int (σ k0 10), .int x1]) (st := []) C0 (mX5_has l D B hB (σ k0 10) x1 σ c1) gX4_payers_X5_has_n99 (by decide +kernel) hh2 hh3 rfl rfl rfl ndX5_has ⟨Nat.le_of_ble_eq_true rfl, Nat.le_of_ble_eq_true rfl⟩ rfl (Nat.le_of_ble_eq_true rfl) rfl dX4_payers_5 ?_
  refine nx_if_ne (tgt := 13) C0 dX4_payers_8 (by decide) (fun q => ?_) (fun q => ?_)
  · have h := niff q h
    refine nx_aload_n C0 0 dX4_payers_13 rfl ?_
    refine nx_aload_n C0 0 dX4_payers_14 rfl ?_
    refine nx_gX4_debtorOf C0 hk0 hh0 hh4 dX4_payers_15 ?_
    refine nx_iload_n C0 1 dX4_payers_18 rfl ?_
    obtain ⟨g3, h⟩ := nguard h
    refine nx_iald C0 (nT_a6 hk0) g3 dX4_payers_19 ?_
    obtain ⟨r5, c4, h⟩ := nbind h
    refine nx_cVi (ci := 4) (n := 1) (As := [.int (σ (k0 + 6) (x1).toNatClampNeg)]) (st := []) C0 (mX4_goodsHad l D B hB hk0 (σ (k0 + 6) (x1).toNatClampNeg) σ c4) gX4_payers_X4_goodsHad rfl rfl rfl ndX4_goodsHad ⟨Nat.le_of_ble_eq_true rfl, Nat.le_of_ble_eq_true rfl⟩ (by have := nT_lt hk0; omega) (nT_e hk0 _) rfl rfl rfl (Nat.le_of_ble_eq_true rfl) rfl dX4_payers_20 ?_
    refine nx_aload_n C0 0 dX4_payers_23 rfl ?_
    refine nx_aload_n C0 0 dX4_payers_24 rfl ?_
    refine nx_gX4_lenderOf C0 hk0 hh0 hh5 dX4_payers_25 ?_
    refine nx_iload_n C0 1 dX4_payers_28 rfl ?_
    obtain ⟨g6, h⟩ := nguard h
    refine nx_iald C0 (nT_a5 hk0) g6 dX4_payers_29 ?_
    refine nx_aload_n C0 0 dX4_payers_30 rfl ?_
    refine nx_gX4_goodsOf C0 hk0 hh0 hh6 dX4_payers_31 ?_
    refine nx_iload_n C0 1 dX4_payers_34 rfl ?_
    obtain ⟨g7, h⟩ := nguard h
    refine nx_iald C0 (nT_a7 hk0) g7 dX4_payers_35 ?_
    obtain ⟨r9, c8, h⟩ := nbind h
    refine nx_cVi (ci := 4) (n := 2) (As := [.int (σ (k0 + 5) (x1).toNatClampNeg), .int (σ (k0 + 7) (x1).toNatClampNeg)]) (st := [.int r5]) C0 (mX4_takenFor l D B hB hk0 (σ (k0 + 5) (x1).toNatClampNeg) (σ (k0 + 7) (x1).toNatClampNeg) σ c8) gX4_payers_X4_takenFor rfl rfl rfl ndX4_takenFor ⟨Nat.le_of_ble_eq_true rfl, Nat.le_of_ble_eq_true rfl⟩ (by have := nT_lt hk0; omega) (nT_e hk0 _) rfl rfl rfl (Nat.le_of_ble_eq_true rfl) rfl dX4_payers_36 ?_
    refine nx_iand C0 dX4_payers_39 ?_
    exact nr_i C0 hr dX4_payers_40 h
  · have h := nift q h
    refine nx_iconst (v := 0) C0 dX4_payers_11 (by decide) ?_
    exact nr_i C0 hr dX4_payers_12 h
def rmX0_look : Room := { frames := 3, cells := 0, slots := 0, locals := 76 }
theorem ndX0_look : yX0_look.cls = RX0 ∧ yX0_look.cls ≠ "java/lang/invoke/MethodHandle" ∧ yX0_look.cls ≠ "java/lang/invoke/VarHandle" ∧ (parseMethodDescriptor yX0_look.desc).map (fun d => d.parameters.length) = some 1 := by decide +kernel
set_option maxRecDepth 100000 in
set_option maxHeartbeats 4000000 in
theorem mX0_look (l : Launch) (D : va_G) (B : nBT) (hB : nInj B) {k1 : Nat} (hk1 : nT k1) (σ : nS)  {σ1 : nS} (h : fX0_look k1 σ = some ((), σ1)) : nMv l D B yX0_look wsX0_look rmX0_look [.ref (na B 48), .ref (na B k1)] σ σ1 := by
  refine nmet (cc := cX0_look) (maxL := 4) (ret := none) (own := RX0) (av := [.ref (na B 48), .ref (na B k1)]) (nQv D B σ1) hB (by decide) rfl rfl (Nat.le_of_ble_eq_true rfl) (fun p e s m args below meth c C0 hr => ?_)
  have hh0 : ∀ w ∈ wsX40, w ∈ wsX0_look := by decide +kernel
  have hh1 := C0.2.2.2.2.1 (Cond.fieldLink RX0 31 "NotInTheCoin$Town" "goods" "I") (by decide +kernel)
  have hh2 : ∀ w ∈ wsX00, w ∈ wsX0_look := by decide +kernel
  have hh3 := C0.2.2.2.2.1 (Cond.fieldLink RX0 17 "NotInTheCoin$Settling" "known" "[[I") (by decide +kernel)
  have hh4 := C0.2.2.2.2.1 (Cond.fieldLink RX0 26 "NotInTheCoin$Settling" "loans" "I") (by decide +kernel)
  have hh5 := C0.2.2.2.2.1 (Cond.fieldLink RX0 9 "NotInTheCoin$Settling" "payersOf" "[I") (by decide +kernel)
  have hh6 := C0.2.2.2.2.1 (Cond.fieldLink RX0 20 "NotInTheCoin$Town" "loans" "I") (by decide +kernel)
  have hfX0_look_b31 : ∀ (s10 : Nat → Int32 → nS → Option (Unit × nS)) (hs10 : ∀ (k_1 : Nat) (hk_1 : nT k_1) (a2 : Int32) (σ : nS), s10 k_1 a2 σ = some ((), σ1) → nJ p l e rmX0_look s m args below meth c 0 0 (MQ below (nQv D B σ1 s.heap.size) args s 0 0 (nA B s.heap.size)) D B 4 10 [(0, .ref (na B 48)), (1, .ref (na B k_1)), (2, .int a2)] [] σ) (n : Nat) (k_1 : Nat) (hk_1 : nT k_1) (a2 : Int32) (a3 : Int32) (σ : nS) (h : fX0_look_b31 s10 n k_1 a2 a3 σ = some ((), σ1)), nJ p l e rmX0_look s m args below meth c 0 0 (MQ below (nQv D B σ1 s.heap.size) args s 0 0 (nA B s.heap.size)) D B 4 31 [(0, .ref (na B 48)), (1, .ref (na B k_1)), (2, .int a2), (3, .int a3)] [] σ := by
    intro s10 hs10 n
    induction n with
    | zero => intro k_1 hk_1 a2 a3 σ h; cases h
    | succ n ih =>
        intro k_1 hk_1 a2 a3 σ h
        rw [fX0_look_b31] at h
        refine nx_iload_n C0 3 dX0_look_31 rfl ?_
        refine nx_iconst (v := 1) C0 dX0_look_32 (by decide) ?_
        refine nx_aload_n C0 1 dX0_look_33 rfl ?_
        refine nx_gX4_goods C0 hk_1 hh0 hh1 dX0_look_34 ?_
        refine nx_ishl C0 dX0_look_37 ?_
        refine nx_icmp_ge (tgt := 56) C0 dX0_look_38 (by decide) (fun q => ?_) (fun q => ?_)
        · have h := nift q h
          obtain ⟨v1, ev1, h⟩ := nlet h
          refine nx_iinc (v := v1) (lv' := [(2, .int v1), (0, .ref (na B 48)), (1, .ref (na B k_1)), (3, .int a3)]) C0 2 dX0_look_56 rfl ev1 (by decide) rfl ?_
          refine nx_goto (tgt := 10) C0 dX0_look_59 (by decide) ?_
          refine nx_lv (lv' := [(0, .ref (na B 48)), (1, .ref (na B k_1)), (2, .int v1)]) [1, 2, 0] rfl ?_
          exact hs10 k_1 hk_1 v1 σ h
        · have h := niff q h
          refine nx_aload_n C0 0 dX0_look_41 rfl ?_
          refine nx_gX0_known C0 hh2 hh3 dX0_look_42 ?_
          refine nx_iload_n C0 2 dX0_look_45 rfl ?_
          obtain ⟨g2, h⟩ := nguard h
          refine nx_aldK C0 g2 dX0_look_46 ?_
          refine nx_iload_n C0 3 dX0_look_47 rfl ?_
          refine nx_iconst (v := -1) C0 dX0_look_48 (by decide) ?_
          obtain ⟨g3, h⟩ := nguard h
          obtain ⟨t4, et4, h⟩ := nlet h
          refine nx_iast C0 (nKn_of g2) g3 dX0_look_49 et4 ?_
          obtain ⟨v5, ev5, h⟩ := nlet h
          refine nx_iinc (v := v5) (lv' := [(3, .int v5), (0, .ref (na B 48)), (1, .ref (na B k_1)), (2, .int a2)]) C0 3 dX0_look_50 rfl ev5 (by decide) rfl ?_
          refine nx_goto (tgt := 31) C0 dX0_look_53 (by decide) ?_
          refine nx_lv (lv' := [(0, .ref (na B 48)), (1, .ref (na B k_1)), (2, .int a2), (3, .int v5)]) [1, 2, 3, 0] rfl ?_
          exact ih k_1 hk_1 a2 v5 t4 h
  have hfX0_look_b10 : ∀  (n : Nat) (k_1 : Nat) (hk_1 : nT k_1) (a2 : Int32) (σ : nS) (h : fX0_look_b10  n k_1 a2 σ = some ((), σ1)), nJ p l e rmX0_look s m args below meth c 0 0 (MQ below (nQv D B σ1 s.heap.size) args s 0 0 (nA B s.heap.size)) D B 4 10 [(0, .ref (na B 48)), (1, .ref (na B k_1)), (2, .int a2)] [] σ := by
    intro  n
    induction n with
    | zero => intro k_1 hk_1 a2 σ h; cases h
    | succ n ih =>
        intro k_1 hk_1 a2 σ h
        rw [fX0_look_b10] at h
        refine nx_iload_n C0 2 dX0_look_10 rfl ?_
        refine nx_aload_n C0 0 dX0_look_11 rfl ?_
        refine nx_gX0_loans C0 hh2 hh4 dX0_look_12 ?_
        refine nx_icmp_ge (tgt := 62) C0 dX0_look_15 (by decide) (fun q => ?_) (fun q => ?_)
        · have h := nift q h
          exact nr_v2 C0 hr dX0_look_62 h
        · have h := niff q h
          refine nx_aload_n C0 0 dX0_look_18 rfl ?_
          refine nx_gX0_payersOf C0 hh2 hh5 dX0_look_19 ?_
          refine nx_iload_n C0 2 dX0_look_22 rfl ?_
          refine nx_aload_n C0 1 dX0_look_23 rfl ?_
          refine nx_iload_n C0 2 dX0_look_24 rfl ?_
          obtain ⟨r7, c6, h⟩ := nbind h
          refine nx_cVi (ci := 4) (n := 1) (As := [.int a2]) (st := [.int a2, .ref (na B 49)]) C0 (mX4_payers l D B hB hk_1 a2 σ c6) gX0_look_X4_payers rfl rfl rfl ndX4_payers ⟨Nat.le_of_ble_eq_true rfl, Nat.le_of_ble_eq_true rfl⟩ (by have := nT_lt hk_1; omega) (nT_e hk_1 _) rfl rfl rfl (Nat.le_of_ble_eq_true rfl) rfl dX0_look_25 ?_
          obtain ⟨g8, h⟩ := nguard h
          obtain ⟨t9, et9, h⟩ := nlet h
          refine nx_iast C0 nI_49 g8 dX0_look_28 et9 ?_
          refine nx_iconst (v := 0) C0 dX0_look_29 (by decide) ?_
          refine nx_istore_n (i := 3) (y := (0 : Int32)) (lv' := [(3, .int (0 : Int32)), (0, .ref (na B 48)), (1, .ref (na B k_1)), (2, .int a2)]) C0 dX0_look_30 rfl (by decide) rfl rfl ?_
          refine nx_lv (lv' := [(0, .ref (na B 48)), (1, .ref (na B k_1)), (2, .int a2), (3, .int (0 : Int32))]) [1, 2, 3, 0] rfl ?_
          exact hfX0_look_b31 (fX0_look_b10 n) ih 4096 k_1 hk_1 a2 (0 : Int32) t9 h
  refine nx_lv (lv' := [(0, .ref (na B 48)), (1, .ref (na B k1))]) [0, 1] rfl ?_
  rw [fX0_look] at h
  refine nx_aload_n C0 0 dX0_look_0 rfl ?_
  refine nx_aload_n C0 1 dX0_look_1 rfl ?_
  refine nx_gX4_loans C0 hk1 hh0 hh6 dX0_look_2 ?_
  obtain ⟨t10, et10, h⟩ := nlet h
  refine nx_pX0_loans C0 hh2 hh4 dX0_look_5 et10 ?_
  refine nx_iconst (v := 0) C0 dX0_look_8 (by decide) ?_
  refine nx_istore_n (i := 2) (y := (0 : Int32)) (lv' := [(2, .int (0 : Int32)), (0, .ref (na B 48)), (1, .ref (na B k1))]) C0 dX0_look_9 rfl (by decide) rfl rfl ?_
  refine nx_lv (lv' := [(0, .ref (na B 48)), (1, .ref (na B k1)), (2, .int (0 : Int32))]) [1, 2, 0] rfl ?_
  exact hfX0_look_b10 4096 k1 hk1 (0 : Int32) t10 h
def rmX5_mostPaid (n : Nat) : Room := { frames := n + 1, cells := 0, slots := 0, locals := n * 25 + 21 }
theorem ndX5_mostPaid : yX5_mostPaid.cls ≠ "java/lang/invoke/MethodHandle" ∧ yX5_mostPaid.cls ≠ "java/lang/invoke/VarHandle" ∧ (parseMethodDescriptor yX5_mostPaid.desc).map (fun d => d.parameters.length) = some 3 := by decide +kernel
set_option maxRecDepth 100000 in
set_option maxHeartbeats 4000000 in
theorem mX5_mostPaid (l : Launch) (D : va_G) (B : nBT) (hB : nInj B) : ∀ (d : Nat) (x1 : Int32) (x2 : Int32) (σ : nS) {r : Int32} {σ1 : nS} (h : fX5_mostPaid d x1 x2 σ = some (r, σ1)), nMi l D B yX5_mostPaid wsX5_mostPaid (rmX5_mostPaid d) [.ref (na B 48), .int x1, .int x2] σ r σ1 := by
  intro d
  induction d with
  | zero => intro x1 x2 σ r σ1 h; cases h
  | succ d hrec0 =>
  intro x1 x2 σ r σ1 h
  have h : fX5_mostPaid_e (fX5_mostPaid d) x1 x2 σ = some (r, σ1) := h
  have hrec : ∀ (x1 : Int32) (x2 : Int32) (σ : nS) {r : Int32} {σ1 : nS} (h : fX5_mostPaid d x1 x2 σ = some (r, σ1)), nMi l D B yX5_mostPaid wsX5_mostPaid (rmX5_mostPaid d) [.ref (na B 48), .int x1, .int x2] σ r σ1 := fun x1 x2 σ {r} {σ1} h => hrec0 x1 x2 σ h
  generalize fX5_mostPaid d = rec at h hrec
  clear hrec0
  refine nmet (cc := cX5_mostPaid) (maxL := 6) (ret := (some .int)) (own := RX5) (av := [.ref (na B 48), .int x1, .int x2]) (nQi D B r σ1) hB (by decide) rfl rfl (Nat.le_of_ble_eq_true rfl) (fun p e s m args below meth c C0 hr => ?_)
  have hh0 : ∀ w ∈ wsX00, w ∈ wsX5_mostPaid := by decide +kernel
  have hh1 := C0.2.2.2.2.1 (Cond.fieldLink RX5 364 "NotInTheCoin$Settling" "known" "[[I") (by decide +kernel)
  have hh2 := C0.2.2.2.2.1 (Cond.methodLink RX5 371 Lib.Math.max.name) (by decide +kernel)
  have hh3 := C0.2.2.2.2.1 (Cond.static Lib.Math.max.name) (by decide +kernel)
  have hh4 := C0.2.2.2.2.1 (Cond.initialized "java/lang/Math") (by decide +kernel)
  have hh5 := C0.2.2.2.2.1 (Cond.code Lib.Math.max.name Lib.Math.max.code 2 (some .int)) (by decide +kernel)
  have hh6 := C0.2.2.2.2.1 (Cond.fieldLink RX5 363 "NotInTheCoin$Settling" "loans" "I") (by decide +kernel)
  have hh7 := C0.2.2.2.2.1 (Cond.fieldLink RX5 368 "NotInTheCoin$Settling" "payersOf" "[I") (by decide +kernel)
  have hfX5_mostPaid_b54 : ∀  (n : Nat) (a1 : Int32) (a2 : Int32) (a3 : Int32) (a4 : Int32) (a5 : Int32) (σ : nS) (h : fX5_mostPaid_b54 rec n a1 a2 a3 a4 a5 σ = some (r, σ1)), nJ p l e (rmX5_mostPaid (d + 1)) s m args below meth c 0 0 (MQ below (nQi D B r σ1 s.heap.size) args s 0 0 (nA B s.heap.size)) D B 6 54 [(0, .ref (na B 48)), (1, .int a1), (2, .int a2), (3, .int a3), (4, .int a4), (5, .int a5)] [] σ := by
    intro  n
    induction n with
    | zero => intro a1 a2 a3 a4 a5 σ h; cases h
    | succ n ih =>
        intro a1 a2 a3 a4 a5 σ h
        rw [fX5_mostPaid_b54] at h
        refine nx_iload C0 5 dX5_mostPaid_54 rfl ?_
        refine nx_bipush (v := 8) C0 dX5_mostPaid_56 (by decide) ?_
        refine nx_icmp_ge (tgt := 97) C0 dX5_mostPaid_58 (by decide) (fun q => ?_) (fun q => ?_)
        · have h := nift q h
          refine nx_aload_n C0 0 dX5_mostPaid_97 rfl ?_
          refine nx_gX0_known C0 hh0 hh1 dX5_mostPaid_98 ?_
          refine nx_iload_n C0 1 dX5_mostPaid_101 rfl ?_
          obtain ⟨g1, h⟩ := nguard h
          refine nx_aldK C0 g1 dX5_mostPaid_102 ?_
          refine nx_iload_n C0 2 dX5_mostPaid_103 rfl ?_
          refine nx_iload_n C0 3 dX5_mostPaid_104 rfl ?_
          obtain ⟨g2, h⟩ := nguard h
          obtain ⟨t3, et3, h⟩ := nlet h
          refine nx_iast C0 (nKn_of g1) g2 dX5_mostPaid_105 et3 ?_
          refine nx_iload_n C0 3 dX5_mostPaid_106 rfl ?_
          exact nr_i2 C0 hr dX5_mostPaid_107 h
        · have h := niff q h
          refine nx_iload C0 4 dX5_mostPaid_61 rfl ?_
          refine nx_iload C0 5 dX5_mostPaid_63 rfl ?_
          obtain ⟨r5, c4, h⟩ := nbind h
          refine nx_cSi (n := 2) (As := [.int a4, .int a5]) (st := []) C0 (mX5_has l D B hB a4 a5 σ c4) gX5_mostPaid_X5_has rfl rfl rfl ndX5_has ⟨by show _ ≤ (rmX5_mostPaid _).frames; simp only [rmX5_mostPaid, rmX5_has]; omega, by show _ ≤ (rmX5_mostPaid _).locals; simp only [rmX5_mostPaid, rmX5_has]; omega⟩ rfl (Nat.le_of_ble_eq_true rfl) rfl dX5_mostPaid_65 ?_
          refine nx_if_eq (tgt := 91) C0 dX5_mostPaid_68 (by decide) (fun q => ?_) (fun q => ?_)
          · have h := nift q h
            obtain ⟨v6, ev6, h⟩ := nlet h
            refine nx_iinc (v := v6) (lv' := [(5, .int v6), (0, .ref (na B 48)), (1, .int a1), (2, .int a2), (3, .int a3), (4, .int a4)]) C0 5 dX5_mostPaid_91 rfl ev6 (by decide) rfl ?_
            refine nx_goto (tgt := 54) C0 dX5_mostPaid_94 (by decide) ?_
            refine nx_lv (lv' := [(0, .ref (na B 48)), (1, .int a1), (2, .int a2), (3, .int a3), (4, .int a4), (5, .int v6)]) [1, 2, 3, 4, 5, 0] rfl ?_
            exact ih a1 a2 a3 a4 v6 σ h
          · have h := niff q h
            refine nx_iload_n C0 3 dX5_mostPaid_71 rfl ?_
            refine nx_iconst (v := 1) C0 dX5_mostPaid_72 (by decide) ?_
            refine nx_aload_n C0 0 dX5_mostPaid_73 rfl ?_
            refine nx_iload_n C0 1 dX5_mostPaid_74 rfl ?_
            refine nx_iconst (v := 1) C0 dX5_mostPaid_75 (by decide) ?_
            refine nx_iadd C0 dX5_mostPaid_76 ?_
            refine nx_iload_n C0 2 dX5_mostPaid_77 rfl ?_
            refine nx_iconst (v := 1) C0 dX5_mostPaid_78 (by decide) ?_
            refine nx_iload C0 5 dX5_mostPaid_79 rfl ?_
            refine nx_ishl C0 dX5_mostPaid_81 ?_
            refine nx_ior C0 dX5_mostPaid_82 ?_
            obtain ⟨r8, t9, c7, h⟩ := nbind2 h
            refine nx_cSi (n := 3) (As := [.ref (na B 48), .int (a1 + (1 : Int32)), .int (a2 ||| ((1 : Int32) <<< (a5 &&& 31)))]) (st := [.int (1 : Int32), .int a3]) C0 (hrec (a1 + (1 : Int32)) (a2 ||| ((1 : Int32) <<< (a5 &&& 31))) σ c7) gX5_mostPaid_X5_mostPaid rfl rfl rfl ndX5_mostPaid ⟨by simp only [rmX5_mostPaid]; omega, by simp only [rmX5_mostPaid]; omega⟩ rfl (Nat.le_of_ble_eq_true rfl) rfl dX5_mostPaid_83 ?_
            refine nx_iadd C0 dX5_mostPaid_86 ?_
            refine nx_mmax C0 hh2 hh3 hh4 hh5 ⟨by simp only [rmX5_mostPaid]; omega, by simp only [rmX5_mostPaid]; exact Nat.le_trans (Nat.le_of_ble_eq_true rfl : _ ≤ 21) (by omega)⟩ dX5_mostPaid_87 ?_
            obtain ⟨v10, ev10, h⟩ := nlet h
            refine nx_istore_n (i := 3) (y := v10) (lv' := [(3, .int v10), (0, .ref (na B 48)), (1, .int a1), (2, .int a2), (4, .int a4), (5, .int a5)]) C0 dX5_mostPaid_90 rfl (by decide) ev10 rfl ?_
            obtain ⟨v11, ev11, h⟩ := nlet h
            refine nx_iinc (v := v11) (lv' := [(5, .int v11), (3, .int v10), (0, .ref (na B 48)), (1, .int a1), (2, .int a2), (4, .int a4)]) C0 5 dX5_mostPaid_91 rfl ev11 (by decide) rfl ?_
            refine nx_goto (tgt := 54) C0 dX5_mostPaid_94 (by decide) ?_
            refine nx_lv (lv' := [(0, .ref (na B 48)), (1, .int a1), (2, .int a2), (3, .int v10), (4, .int a4), (5, .int v11)]) [2, 3, 4, 1, 5, 0] rfl ?_
            exact ih a1 a2 v10 a4 v11 t9 h
  refine nx_lv (lv' := [(0, .ref (na B 48)), (1, .int x1), (2, .int x2)]) [0, 1, 2] rfl ?_
  rw [fX5_mostPaid_e] at h
  refine nx_iload_n C0 1 dX5_mostPaid_0 rfl ?_
  refine nx_aload_n C0 0 dX5_mostPaid_1 rfl ?_
  refine nx_gX0_loans C0 hh0 hh6 dX5_mostPaid_2 ?_
  refine nx_icmp_lt (tgt := 10) C0 dX5_mostPaid_5 (by decide) (fun q => ?_) (fun q => ?_)
  · have h := nift q h
    refine nx_aload_n C0 0 dX5_mostPaid_10 rfl ?_
    refine nx_gX0_known C0 hh0 hh1 dX5_mostPaid_11 ?_
    refine nx_iload_n C0 1 dX5_mostPaid_14 rfl ?_
    obtain ⟨g12, h⟩ := nguard h
    refine nx_aldK C0 g12 dX5_mostPaid_15 ?_
    refine nx_iload_n C0 2 dX5_mostPaid_16 rfl ?_
    obtain ⟨g13, h⟩ := nguard h
    refine nx_iald C0 (nKn_of g12) g13 dX5_mostPaid_17 ?_
    refine nx_if_lt (tgt := 30) C0 dX5_mostPaid_18 (by decide) (fun q => ?_) (fun q => ?_)
    · have h := nift q h
      refine nx_aload_n C0 0 dX5_mostPaid_30 rfl ?_
      refine nx_iload_n C0 1 dX5_mostPaid_31 rfl ?_
      refine nx_iconst (v := 1) C0 dX5_mostPaid_32 (by decide) ?_
      refine nx_iadd C0 dX5_mostPaid_33 ?_
      refine nx_iload_n C0 2 dX5_mostPaid_34 rfl ?_
      obtain ⟨r15, t16, c14, h⟩ := nbind2 h
      refine nx_cSi (n := 3) (As := [.ref (na B 48), .int (x1 + (1 : Int32)), .int x2]) (st := []) C0 (hrec (x1 + (1 : Int32)) x2 σ c14) gX5_mostPaid_X5_mostPaid rfl rfl rfl ndX5_mostPaid ⟨by simp only [rmX5_mostPaid]; omega, by simp only [rmX5_mostPaid]; omega⟩ rfl (Nat.le_of_ble_eq_true rfl) rfl dX5_mostPaid_35 ?_
      refine nx_istore_n (i := 3) (y := r15) (lv' := [(3, .int r15), (0, .ref (na B 48)), (1, .int x1), (2, .int x2)]) C0 dX5_mostPaid_38 rfl (by decide) rfl rfl ?_
      refine nx_aload_n C0 1 dX5_mostPaid_39 rfl ?_
      refine nx_gX0_payersOf C0 hh0 hh7 dX5_mostPaid_40 ?_
      refine nx_iload_n C0 2 dX5_mostPaid_43 rfl ?_
      obtain ⟨g17, h⟩ := nguard h
      refine nx_iald C0 nI_49 g17 dX5_mostPaid_44 ?_
      refine nx_iload_n C0 3 dX5_mostPaid_45 rfl ?_
      refine nx_iconst (v := -1) C0 dX5_mostPaid_46 (by decide) ?_
      refine nx_ixor C0 dX5_mostPaid_47 ?_
      refine nx_iand C0 dX5_mostPaid_48 ?_
      obtain ⟨v18, ev18, h⟩ := nlet h
      refine nx_istore (i := 4) (y := v18) (lv' := [(4, .int v18), (3, .int r15), (0, .ref (na B 48)), (1, .int x1), (2, .int x2)]) C0 dX5_mostPaid_49 (by decide) ev18 rfl ?_
      refine nx_iconst (v := 0) C0 dX5_mostPaid_51 (by decide) ?_
      refine nx_istore (i := 5) (y := (0 : Int32)) (lv' := [(5, .int (0 : Int32)), (4, .int v18), (3, .int r15), (0, .ref (na B 48)), (1, .int x1), (2, .int x2)]) C0 dX5_mostPaid_52 (by decide) rfl rfl ?_
      refine nx_lv (lv' := [(0, .ref (na B 48)), (1, .int x1), (2, .int x2), (3, .int r15), (4, .int v18), (5, .int (0 : Int32))]) [3, 4, 5, 2, 1, 0] rfl ?_
      exact hfX5_mostPaid_b54 4096 x1 x2 r15 v18 (0 : Int32) t16 h
    · have h := niff q h
      refine nx_aload_n C0 0 dX5_mostPaid_21 rfl ?_
      refine nx_gX0_known C0 hh0 hh1 dX5_mostPaid_22 ?_
      refine nx_iload_n C0 1 dX5_mostPaid_25 rfl ?_
      obtain ⟨g19, h⟩ := nguard h
      refine nx_aldK C0 g19 dX5_mostPaid_26 ?_
      refine nx_iload_n C0 2 dX5_mostPaid_27 rfl ?_
      obtain ⟨g20, h⟩ := nguard h
      refine nx_iald C0 (nKn_of g19) g20 dX5_mostPaid_28 ?_
      exact nr_i2 C0 hr dX5_mostPaid_29 h
  · have h := niff q h
    refine nx_iconst (v := 0) C0 dX5_mostPaid_8 (by decide) ?_
    exact nr_i2 C0 hr dX5_mostPaid_9 h
def rmX0_firstBest : Room := { frames := 22, cells := 0, slots := 0, locals := 546 }
theorem ndX0_firstBest : yX0_firstBest.cls = RX0 ∧ yX0_firstBest.cls ≠ "java/lang/invoke/MethodHandle" ∧ yX0_firstBest.cls ≠ "java/lang/invoke/VarHandle" ∧ (parseMethodDescriptor yX0_firstBest.desc).map (fun d => d.parameters.length) = some 2 := by decide +kernel
set_option maxRecDepth 100000 in
set_option maxHeartbeats 4000000 in
theorem mX0_firstBest (l : Launch) (D : va_G) (B : nBT) (hB : nInj B) (x1 : Int32) (x2 : Int32) (σ : nS) {r : Int32} {σ1 : nS} (h : fX0_firstBest x1 x2 σ = some (r, σ1)) : nMi l D B yX0_firstBest wsX0_firstBest rmX0_firstBest [.ref (na B 48), .int x1, .int x2] σ r σ1 := by
  refine nmet (cc := cX0_firstBest) (maxL := 6) (ret := (some .int)) (own := RX0) (av := [.ref (na B 48), .int x1, .int x2]) (nQi D B r σ1) hB (by decide) rfl rfl (Nat.le_of_ble_eq_true rfl) (fun p e s m args below meth c C0 hr => ?_)
  have hh0 := C0.2.2.2.2.1 (Cond.static yX5_has) (by decide +kernel)
  have hh1 := C0.2.2.2.2.1 (Cond.initialized RX5) (by decide +kernel)
  have hh2 := C0.2.2.2.2.1 (Cond.static yX5_mostPaid) (by decide +kernel)
  have hh3 : ∀ w ∈ wsX00, w ∈ wsX0_firstBest := by decide +kernel
  have hh4 := C0.2.2.2.2.1 (Cond.fieldLink RX0 9 "NotInTheCoin$Settling" "payersOf" "[I") (by decide +kernel)
  have hfX0_firstBest_b22 : ∀  (n : Nat) (a1 : Int32) (a2 : Int32) (a3 : Int32) (a4 : Int32) (a5 : Int32) (σ : nS) (h : fX0_firstBest_b22  n a1 a2 a3 a4 a5 σ = some (r, σ1)), nJ p l e rmX0_firstBest s m args below meth c 0 0 (MQ below (nQi D B r σ1 s.heap.size) args s 0 0 (nA B s.heap.size)) D B 6 22 [(0, .ref (na B 48)), (1, .int a1), (2, .int a2), (3, .int a3), (4, .int a4), (5, .int a5)] [] σ := by
    intro  n
    induction n with
    | zero => intro a1 a2 a3 a4 a5 σ h; cases h
    | succ n ih =>
        intro a1 a2 a3 a4 a5 σ h
        rw [fX0_firstBest_b22] at h
        refine nx_iload C0 5 dX0_firstBest_22 rfl ?_
        refine nx_bipush (v := 8) C0 dX0_firstBest_24 (by decide) ?_
        refine nx_icmp_ge (tgt := 67) C0 dX0_firstBest_26 (by decide) (fun q => ?_) (fun q => ?_)
        · have h := nift q h
          refine nx_bipush (v := -4) C0 dX0_firstBest_67 (by decide) ?_
          exact nr_i2 C0 hr dX0_firstBest_69 h
        · have h := niff q h
          refine nx_iload C0 4 dX0_firstBest_29 rfl ?_
          refine nx_iload C0 5 dX0_firstBest_31 rfl ?_
          obtain ⟨r2, c1, h⟩ := nbind h
          refine nx_cNi (n := 2) (As := [.int a4, .int a5]) (st := []) C0 (mX5_has l D B hB a4 a5 σ c1) gX0_firstBest_X5_has_n42 (by decide +kernel) hh0 hh1 rfl rfl rfl ndX5_has ⟨Nat.le_of_ble_eq_true rfl, Nat.le_of_ble_eq_true rfl⟩ rfl (Nat.le_of_ble_eq_true rfl) rfl dX0_firstBest_33 ?_
          refine nx_if_eq (tgt := 61) C0 dX0_firstBest_36 (by decide) (fun q => ?_) (fun q => ?_)
          · have h := nift q h
            obtain ⟨v3, ev3, h⟩ := nlet h
            refine nx_iinc (v := v3) (lv' := [(5, .int v3), (0, .ref (na B 48)), (1, .int a1), (2, .int a2), (3, .int a3), (4, .int a4)]) C0 5 dX0_firstBest_61 rfl ev3 (by decide) rfl ?_
            refine nx_goto (tgt := 22) C0 dX0_firstBest_64 (by decide) ?_
            refine nx_lv (lv' := [(0, .ref (na B 48)), (1, .int a1), (2, .int a2), (3, .int a3), (4, .int a4), (5, .int v3)]) [1, 2, 3, 4, 5, 0] rfl ?_
            exact ih a1 a2 a3 a4 v3 σ h
          · have h := niff q h
            refine nx_iconst (v := 1) C0 dX0_firstBest_39 (by decide) ?_
            refine nx_aload_n C0 0 dX0_firstBest_40 rfl ?_
            refine nx_iload_n C0 1 dX0_firstBest_41 rfl ?_
            refine nx_iconst (v := 1) C0 dX0_firstBest_42 (by decide) ?_
            refine nx_iadd C0 dX0_firstBest_43 ?_
            refine nx_iload_n C0 2 dX0_firstBest_44 rfl ?_
            refine nx_iconst (v := 1) C0 dX0_firstBest_45 (by decide) ?_
            refine nx_iload C0 5 dX0_firstBest_46 rfl ?_
            refine nx_ishl C0 dX0_firstBest_48 ?_
            refine nx_ior C0 dX0_firstBest_49 ?_
            obtain ⟨r5, t6, c4, h⟩ := nbind2 h
            refine nx_cNi (n := 3) (As := [.ref (na B 48), .int (a1 + (1 : Int32)), .int (a2 ||| ((1 : Int32) <<< (a5 &&& 31)))]) (st := [.int (1 : Int32)]) C0 (mX5_mostPaid l D B hB 20 (a1 + (1 : Int32)) (a2 ||| ((1 : Int32) <<< (a5 &&& 31))) σ c4) gX0_firstBest_X5_mostPaid_n38 (by decide +kernel) hh2 hh1 rfl rfl rfl ndX5_mostPaid ⟨Nat.le_of_ble_eq_true rfl, Nat.le_of_ble_eq_true rfl⟩ rfl (Nat.le_of_ble_eq_true rfl) rfl dX0_firstBest_50 ?_
            refine nx_iadd C0 dX0_firstBest_53 ?_
            refine nx_iload_n C0 3 dX0_firstBest_54 rfl ?_
            refine nx_icmp_ne (tgt := 61) C0 dX0_firstBest_55 (by decide) (fun q => ?_) (fun q => ?_)
            · have h := niff q h
              obtain ⟨v7, ev7, h⟩ := nlet h
              refine nx_iinc (v := v7) (lv' := [(5, .int v7), (0, .ref (na B 48)), (1, .int a1), (2, .int a2), (3, .int a3), (4, .int a4)]) C0 5 dX0_firstBest_61 rfl ev7 (by decide) rfl ?_
              refine nx_goto (tgt := 22) C0 dX0_firstBest_64 (by decide) ?_
              refine nx_lv (lv' := [(0, .ref (na B 48)), (1, .int a1), (2, .int a2), (3, .int a3), (4, .int a4), (5, .int v7)]) [1, 2, 3, 4, 5, 0] rfl ?_
              exact ih a1 a2 a3 a4 v7 t6 h
            · have h := nift q h
              refine nx_iload C0 5 dX0_firstBest_58 rfl ?_
              exact nr_i2 C0 hr dX0_firstBest_60 h
  refine nx_lv (lv' := [(0, .ref (na B 48)), (1, .int x1), (2, .int x2)]) [0, 1, 2] rfl ?_
  rw [fX0_firstBest] at h
  refine nx_aload_n C0 0 dX0_firstBest_0 rfl ?_
  refine nx_iload_n C0 1 dX0_firstBest_1 rfl ?_
  refine nx_iload_n C0 2 dX0_firstBest_2 rfl ?_
  obtain ⟨r9, t10, c8, h⟩ := nbind2 h
  refine nx_cNi (n := 3) (As := [.ref (na B 48), .int x1, .int x2]) (st := []) C0 (mX5_mostPaid l D B hB 20 x1 x2 σ c8) gX0_firstBest_X5_mostPaid_n38 (by decide +kernel) hh2 hh1 rfl rfl rfl ndX5_mostPaid ⟨Nat.le_of_ble_eq_true rfl, Nat.le_of_ble_eq_true rfl⟩ rfl (Nat.le_of_ble_eq_true rfl) rfl dX0_firstBest_3 ?_
  refine nx_istore_n (i := 3) (y := r9) (lv' := [(3, .int r9), (0, .ref (na B 48)), (1, .int x1), (2, .int x2)]) C0 dX0_firstBest_6 rfl (by decide) rfl rfl ?_
  refine nx_aload_n C0 1 dX0_firstBest_7 rfl ?_
  refine nx_gX0_payersOf C0 hh3 hh4 dX0_firstBest_8 ?_
  refine nx_iload_n C0 2 dX0_firstBest_11 rfl ?_
  obtain ⟨g11, h⟩ := nguard h
  refine nx_iald C0 nI_49 g11 dX0_firstBest_12 ?_
  refine nx_iload_n C0 3 dX0_firstBest_13 rfl ?_
  refine nx_iconst (v := -1) C0 dX0_firstBest_14 (by decide) ?_
  refine nx_ixor C0 dX0_firstBest_15 ?_
  refine nx_iand C0 dX0_firstBest_16 ?_
  obtain ⟨v12, ev12, h⟩ := nlet h
  refine nx_istore (i := 4) (y := v12) (lv' := [(4, .int v12), (3, .int r9), (0, .ref (na B 48)), (1, .int x1), (2, .int x2)]) C0 dX0_firstBest_17 (by decide) ev12 rfl ?_
  refine nx_iconst (v := 0) C0 dX0_firstBest_19 (by decide) ?_
  refine nx_istore (i := 5) (y := (0 : Int32)) (lv' := [(5, .int (0 : Int32)), (4, .int v12), (3, .int r9), (0, .ref (na B 48)), (1, .int x1), (2, .int x2)]) C0 dX0_firstBest_20 (by decide) rfl rfl ?_
  refine nx_lv (lv' := [(0, .ref (na B 48)), (1, .int x1), (2, .int x2), (3, .int r9), (4, .int v12), (5, .int (0 : Int32))]) [3, 4, 5, 2, 1, 0] rfl ?_
  exact hfX0_firstBest_b22 4096 x1 x2 r9 v12 (0 : Int32) t10 h
def rmX0_payment : Room := { frames := 23, cells := 0, slots := 0, locals := 571 }
theorem ndX0_payment : yX0_payment.cls = RX0 ∧ yX0_payment.cls ≠ "java/lang/invoke/MethodHandle" ∧ yX0_payment.cls ≠ "java/lang/invoke/VarHandle" ∧ (parseMethodDescriptor yX0_payment.desc).map (fun d => d.parameters.length) = some 1 := by decide +kernel
set_option maxRecDepth 100000 in
set_option maxHeartbeats 4000000 in
theorem mX0_payment (l : Launch) (D : va_G) (B : nBT) (hB : nInj B) (x1 : Int32) (σ : nS) {r : Int32} {σ1 : nS} (h : fX0_payment x1 σ = some (r, σ1)) : nMi l D B yX0_payment wsX0_payment rmX0_payment [.ref (na B 48), .int x1] σ r σ1 := by
  refine nmet (cc := cX0_payment) (maxL := 5) (ret := (some .int)) (own := RX0) (av := [.ref (na B 48), .int x1]) (nQi D B r σ1) hB (by decide) rfl rfl (Nat.le_of_ble_eq_true rfl) (fun p e s m args below meth c C0 hr => ?_)
  have hfX0_payment_b4 : ∀  (n : Nat) (a1 : Int32) (a2 : Int32) (a3 : Int32) (σ : nS) (h : fX0_payment_b4  n a1 a2 a3 σ = some (r, σ1)), nJ p l e rmX0_payment s m args below meth c 0 0 (MQ below (nQi D B r σ1 s.heap.size) args s 0 0 (nA B s.heap.size)) D B 5 4 [(0, .ref (na B 48)), (1, .int a1), (2, .int a2), (3, .int a3)] [] σ := by
    intro  n
    induction n with
    | zero => intro a1 a2 a3 σ h; cases h
    | succ n ih =>
        intro a1 a2 a3 σ h
        rw [fX0_payment_b4] at h
        refine nx_iload_n C0 3 dX0_payment_4 rfl ?_
        refine nx_iload_n C0 1 dX0_payment_5 rfl ?_
        refine nx_icmp_ge (tgt := 35) C0 dX0_payment_6 (by decide) (fun q => ?_) (fun q => ?_)
        · have h := nift q h
          refine nx_aload_n C0 0 dX0_payment_35 rfl ?_
          refine nx_iload_n C0 1 dX0_payment_36 rfl ?_
          refine nx_iload_n C0 2 dX0_payment_37 rfl ?_
          obtain ⟨r2, t3, c1, h⟩ := nbind2 h
          refine nx_cVi (ci := 0) (n := 2) (As := [.int a1, .int a2]) (st := []) C0 (mX0_firstBest l D B hB a1 a2 σ c1) gX0_payment_X0_firstBest rfl rfl rfl ndX0_firstBest ⟨Nat.le_of_ble_eq_true rfl, Nat.le_of_ble_eq_true rfl⟩ (by decide) rfl rfl rfl rfl (Nat.le_of_ble_eq_true rfl) rfl dX0_payment_38 ?_
          exact nr_i2 C0 hr dX0_payment_41 h
        · have h := niff q h
          refine nx_aload_n C0 0 dX0_payment_9 rfl ?_
          refine nx_iload_n C0 3 dX0_payment_10 rfl ?_
          refine nx_iload_n C0 2 dX0_payment_11 rfl ?_
          obtain ⟨r5, t6, c4, h⟩ := nbind2 h
          refine nx_cVi (ci := 0) (n := 2) (As := [.int a3, .int a2]) (st := []) C0 (mX0_firstBest l D B hB a3 a2 σ c4) gX0_payment_X0_firstBest rfl rfl rfl ndX0_firstBest ⟨Nat.le_of_ble_eq_true rfl, Nat.le_of_ble_eq_true rfl⟩ (by decide) rfl rfl rfl rfl (Nat.le_of_ble_eq_true rfl) rfl dX0_payment_12 ?_
          refine nx_istore (i := 4) (y := r5) (lv' := [(4, .int r5), (0, .ref (na B 48)), (1, .int a1), (2, .int a2), (3, .int a3)]) C0 dX0_payment_15 (by decide) rfl rfl ?_
          refine nx_iload C0 0 dX0_payment_17 rfl ?_
          refine nx_if_lt (tgt := 29) C0 dX0_payment_19 (by decide) (fun q => ?_) (fun q => ?_)
          · have h := nift q h
            obtain ⟨v7, ev7, h⟩ := nlet h
            refine nx_iinc (v := v7) (lv' := [(3, .int v7), (4, .int r5), (0, .ref (na B 48)), (1, .int a1), (2, .int a2)]) C0 4 dX0_payment_29 rfl ev7 (by decide) rfl ?_
            refine nx_goto (tgt := 4) C0 dX0_payment_32 (by decide) ?_
            refine nx_lv (lv' := [(0, .ref (na B 48)), (1, .int a1), (2, .int a2), (3, .int v7)]) [2, 3, 4, 0] rfl ?_
            exact ih a1 a2 v7 t6 h
          · have h := niff q h
            refine nx_iload_n C0 3 dX0_payment_22 rfl ?_
            refine nx_iconst (v := 1) C0 dX0_payment_23 (by decide) ?_
            refine nx_iload C0 0 dX0_payment_24 rfl ?_
            refine nx_ishl C0 dX0_payment_26 ?_
            refine nx_ior C0 dX0_payment_27 ?_
            obtain ⟨v8, ev8, h⟩ := nlet h
            refine nx_istore_n (i := 2) (y := v8) (lv' := [(2, .int v8), (4, .int r5), (0, .ref (na B 48)), (1, .int a1), (3, .int a3)]) C0 dX0_payment_28 rfl (by decide) ev8 rfl ?_
            obtain ⟨v9, ev9, h⟩ := nlet h
            refine nx_iinc (v := v9) (lv' := [(3, .int v9), (2, .int v8), (4, .int r5), (0, .ref (na B 48)), (1, .int a1)]) C0 4 dX0_payment_29 rfl ev9 (by decide) rfl ?_
            refine nx_goto (tgt := 4) C0 dX0_payment_32 (by decide) ?_
            refine nx_lv (lv' := [(0, .ref (na B 48)), (1, .int a1), (2, .int v8), (3, .int v9)]) [3, 4, 1, 0] rfl ?_
            exact ih a1 v8 v9 t6 h
  refine nx_lv (lv' := [(0, .ref (na B 48)), (1, .int x1)]) [0, 1] rfl ?_
  rw [fX0_payment] at h
  refine nx_iconst (v := 0) C0 dX0_payment_0 (by decide) ?_
  refine nx_istore_n (i := 2) (y := (0 : Int32)) (lv' := [(2, .int (0 : Int32)), (0, .ref (na B 48)), (1, .int x1)]) C0 dX0_payment_1 rfl (by decide) rfl rfl ?_
  refine nx_iconst (v := 0) C0 dX0_payment_2 (by decide) ?_
  refine nx_istore_n (i := 3) (y := (0 : Int32)) (lv' := [(3, .int (0 : Int32)), (2, .int (0 : Int32)), (0, .ref (na B 48)), (1, .int x1)]) C0 dX0_payment_3 rfl (by decide) rfl rfl ?_
  refine nx_lv (lv' := [(0, .ref (na B 48)), (1, .int x1), (2, .int (0 : Int32)), (3, .int (0 : Int32))]) [2, 3, 1, 0] rfl ?_
  exact hfX0_payment_b4 4096 x1 (0 : Int32) (0 : Int32) σ h
def rmX1_holdThing : Room := { frames := 0, cells := 0, slots := 0, locals := 0 }
theorem ndX1_holdThing : yX1_holdThing.cls = RX1 ∧ yX1_holdThing.cls ≠ "java/lang/invoke/MethodHandle" ∧ yX1_holdThing.cls ≠ "java/lang/invoke/VarHandle" ∧ (parseMethodDescriptor yX1_holdThing.desc).map (fun d => d.parameters.length) = some 2 := by decide +kernel
set_option maxRecDepth 100000 in
set_option maxHeartbeats 4000000 in
theorem mX1_holdThing (l : Launch) (D : va_G) (B : nBT) (hB : nInj B) {k0 : Nat} (hk0 : nSh k0) (x1 : Int32) (x2 : Int32) (σ : nS)  {σ1 : nS} (h : fX1_holdThing k0 x1 x2 σ = some ((), σ1)) : nMv l D B yX1_holdThing wsX1_holdThing rmX1_holdThing [.ref (na B k0), .int x1, .int x2] σ σ1 := by
  refine nmet (cc := cX1_holdThing) (maxL := 3) (ret := none) (own := RX1) (av := [.ref (na B k0), .int x1, .int x2]) (nQv D B σ1) hB (by decide) rfl rfl (Nat.le_of_ble_eq_true rfl) (fun p e s m args below meth c C0 hr => ?_)
  have hh0 : ∀ w ∈ wsX10, w ∈ wsX1_holdThing := by decide +kernel
  have hh1 := C0.2.2.2.2.1 (Cond.fieldLink RX1 15 "NotInTheCoin$Shelf" "holds" "I") (by decide +kernel)
  have hh2 := C0.2.2.2.2.1 (Cond.fieldLink RX1 19 "NotInTheCoin$Shelf" "kind" "I") (by decide +kernel)
  have hh3 := C0.2.2.2.2.1 (Cond.fieldLink RX1 22 "NotInTheCoin$Shelf" "figure" "I") (by decide +kernel)
  refine nx_lv (lv' := [(0, .ref (na B k0)), (1, .int x1), (2, .int x2)]) [0, 1, 2] rfl ?_
  rw [fX1_holdThing] at h
  refine nx_aload_n C0 0 dX1_holdThing_0 rfl ?_
  refine nx_iconst (v := 1) C0 dX1_holdThing_1 (by decide) ?_
  obtain ⟨t1, et1, h⟩ := nlet h
  refine nx_pX1_holds C0 hk0 hh0 hh1 dX1_holdThing_2 et1 ?_
  refine nx_aload_n C0 0 dX1_holdThing_5 rfl ?_
  refine nx_iload_n C0 1 dX1_holdThing_6 rfl ?_
  obtain ⟨t2, et2, h⟩ := nlet h
  refine nx_pX1_kind C0 hk0 hh0 hh2 dX1_holdThing_7 et2 ?_
  refine nx_aload_n C0 0 dX1_holdThing_10 rfl ?_
  refine nx_iload_n C0 2 dX1_holdThing_11 rfl ?_
  obtain ⟨t3, et3, h⟩ := nlet h
  refine nx_pX1_figure C0 hk0 hh0 hh3 dX1_holdThing_12 et3 ?_
  exact nr_v2 C0 hr dX1_holdThing_15 h
def rmX1_holdRow : Room := { frames := 0, cells := 0, slots := 0, locals := 0 }
theorem ndX1_holdRow : yX1_holdRow.cls = RX1 ∧ yX1_holdRow.cls ≠ "java/lang/invoke/MethodHandle" ∧ yX1_holdRow.cls ≠ "java/lang/invoke/VarHandle" ∧ (parseMethodDescriptor yX1_holdRow.desc).map (fun d => d.parameters.length) = some 2 := by decide +kernel
set_option maxRecDepth 100000 in
set_option maxHeartbeats 4000000 in
theorem mX1_holdRow (l : Launch) (D : va_G) (B : nBT) (hB : nInj B) {k0 : Nat} (hk0 : nSh k0) (x1 : Int32) (x2 : Int32) (σ : nS)  {σ1 : nS} (h : fX1_holdRow k0 x1 x2 σ = some ((), σ1)) : nMv l D B yX1_holdRow wsX1_holdRow rmX1_holdRow [.ref (na B k0), .int x1, .int x2] σ σ1 := by
  refine nmet (cc := cX1_holdRow) (maxL := 4) (ret := none) (own := RX1) (av := [.ref (na B k0), .int x1, .int x2]) (nQv D B σ1) hB (by decide) rfl rfl (Nat.le_of_ble_eq_true rfl) (fun p e s m args below meth c C0 hr => ?_)
  have hh0 : ∀ w ∈ wsX10, w ∈ wsX1_holdRow := by decide +kernel
  have hh1 := C0.2.2.2.2.1 (Cond.fieldLink RX1 9 "NotInTheCoin$Shelf" "cells" "[I") (by decide +kernel)
  have hh2 := C0.2.2.2.2.1 (Cond.fieldLink RX1 15 "NotInTheCoin$Shelf" "holds" "I") (by decide +kernel)
  have hh3 := C0.2.2.2.2.1 (Cond.fieldLink RX1 25 "NotInTheCoin$Shelf" "sort" "I") (by decide +kernel)
  have hh4 := C0.2.2.2.2.1 (Cond.fieldLink RX1 28 "NotInTheCoin$Shelf" "size" "I") (by decide +kernel)
  have hfX1_holdRow_b17 : ∀  (n : Nat) (k_0 : Nat) (hk_0 : nSh k_0) (a3 : Int32) (σ : nS) (h : fX1_holdRow_b17  n k_0 a3 σ = some ((), σ1)), nJ p l e rmX1_holdRow s m args below meth c 0 0 (MQ below (nQv D B σ1 s.heap.size) args s 0 0 (nA B s.heap.size)) D B 4 17 [(0, .ref (na B k_0)), (3, .int a3)] [] σ := by
    intro  n
    induction n with
    | zero => intro k_0 hk_0 a3 σ h; cases h
    | succ n ih =>
        intro k_0 hk_0 a3 σ h
        rw [fX1_holdRow_b17] at h
        refine nx_iload_n C0 1 dX1_holdRow_17 rfl ?_
        refine nx_bipush (v := 100) C0 dX1_holdRow_18 (by decide) ?_
        refine nx_icmp_ge (tgt := 36) C0 dX1_holdRow_20 (by decide) (fun q => ?_) (fun q => ?_)
        · have h := nift q h
          exact nr_v2 C0 hr dX1_holdRow_36 h
        · have h := niff q h
          refine nx_aload_n C0 0 dX1_holdRow_23 rfl ?_
          refine nx_gX1_cells C0 hk_0 hh0 hh1 dX1_holdRow_24 ?_
          refine nx_iload_n C0 1 dX1_holdRow_27 rfl ?_
          refine nx_iconst (v := 0) C0 dX1_holdRow_28 (by decide) ?_
          obtain ⟨g1, h⟩ := nguard h
          obtain ⟨t2, et2, h⟩ := nlet h
          refine nx_iast C0 (nSh_c hk_0) g1 dX1_holdRow_29 et2 ?_
          obtain ⟨v3, ev3, h⟩ := nlet h
          refine nx_iinc (v := v3) (lv' := [(3, .int v3), (0, .ref (na B k_0))]) C0 1 dX1_holdRow_30 rfl ev3 (by decide) rfl ?_
          refine nx_goto (tgt := 17) C0 dX1_holdRow_33 (by decide) ?_
          refine nx_lv (lv' := [(0, .ref (na B k_0)), (3, .int v3)]) [1, 0] rfl ?_
          exact ih k_0 hk_0 v3 t2 h
  refine nx_lv (lv' := [(0, .ref (na B k0)), (1, .int x1), (2, .int x2)]) [0, 1, 2] rfl ?_
  rw [fX1_holdRow] at h
  refine nx_aload_n C0 0 dX1_holdRow_0 rfl ?_
  refine nx_iconst (v := 2) C0 dX1_holdRow_1 (by decide) ?_
  obtain ⟨t4, et4, h⟩ := nlet h
  refine nx_pX1_holds C0 hk0 hh0 hh2 dX1_holdRow_2 et4 ?_
  refine nx_aload_n C0 0 dX1_holdRow_5 rfl ?_
  refine nx_iload_n C0 1 dX1_holdRow_6 rfl ?_
  obtain ⟨t5, et5, h⟩ := nlet h
  refine nx_pX1_sort C0 hk0 hh0 hh3 dX1_holdRow_7 et5 ?_
  refine nx_aload_n C0 0 dX1_holdRow_10 rfl ?_
  refine nx_iload_n C0 2 dX1_holdRow_11 rfl ?_
  obtain ⟨t6, et6, h⟩ := nlet h
  refine nx_pX1_size C0 hk0 hh0 hh4 dX1_holdRow_12 et6 ?_
  refine nx_iconst (v := 0) C0 dX1_holdRow_15 (by decide) ?_
  refine nx_istore_n (i := 3) (y := (0 : Int32)) (lv' := [(3, .int (0 : Int32)), (0, .ref (na B k0)), (1, .int x1), (2, .int x2)]) C0 dX1_holdRow_16 rfl (by decide) rfl rfl ?_
  refine nx_lv (lv' := [(0, .ref (na B k0)), (3, .int (0 : Int32))]) [1, 0] rfl ?_
  exact hfX1_holdRow_b17 4096 k0 hk0 (0 : Int32) t6 h
def rmX1_refusal : Room := { frames := 0, cells := 0, slots := 0, locals := 0 }
theorem ndX1_refusal : yX1_refusal.cls = RX1 ∧ yX1_refusal.cls ≠ "java/lang/invoke/MethodHandle" ∧ yX1_refusal.cls ≠ "java/lang/invoke/VarHandle" ∧ (parseMethodDescriptor yX1_refusal.desc).map (fun d => d.parameters.length) = some 1 := by decide +kernel
set_option maxRecDepth 100000 in
set_option maxHeartbeats 4000000 in
theorem mX1_refusal (l : Launch) (D : va_G) (B : nBT) (hB : nInj B) {k0 : Nat} (hk0 : nSh k0) (x1 : Int32) (σ : nS) {r : Int32}  (h : fX1_refusal k0 x1 σ = some r) : nMi l D B yX1_refusal wsX1_refusal rmX1_refusal [.ref (na B k0), .int x1] σ r σ := by
  refine nmet (cc := cX1_refusal) (maxL := 2) (ret := (some .int)) (own := RX1) (av := [.ref (na B k0), .int x1]) (nQi D B r σ) hB (by decide) rfl rfl (Nat.le_of_ble_eq_true rfl) (fun p e s m args below meth c C0 hr => ?_)
  have hh0 : ∀ w ∈ wsX10, w ∈ wsX1_refusal := by decide +kernel
  have hh1 := C0.2.2.2.2.1 (Cond.fieldLink RX1 15 "NotInTheCoin$Shelf" "holds" "I") (by decide +kernel)
  refine nx_lv (lv' := [(0, .ref (na B k0)), (1, .int x1)]) [0, 1] rfl ?_
  rw [fX1_refusal] at h
  refine nx_aload_n C0 0 dX1_refusal_0 rfl ?_
  refine nx_gX1_holds C0 hk0 hh0 hh1 dX1_refusal_1 ?_
  refine nx_if_ne (tgt := 10) C0 dX1_refusal_4 (by decide) (fun q => ?_) (fun q => ?_)
  · have h := niff q h
    refine nx_aload_n C0 0 dX1_refusal_10 rfl ?_
    refine nx_gX1_holds C0 hk0 hh0 hh1 dX1_refusal_11 ?_
    refine nx_iload_n C0 1 dX1_refusal_14 rfl ?_
    refine nx_icmp_ne (tgt := 22) C0 dX1_refusal_15 (by decide) (fun q => ?_) (fun q => ?_)
    · have h := niff q h
      refine nx_bipush (v := -12) C0 dX1_refusal_22 (by decide) ?_
      exact nr_i C0 hr dX1_refusal_24 h
    · have h := nift q h
      refine nx_iconst (v := 0) C0 dX1_refusal_18 (by decide) ?_
      refine nx_goto (tgt := 24) C0 dX1_refusal_19 (by decide) ?_
      exact nr_i C0 hr dX1_refusal_24 h
  · have h := nift q h
    refine nx_bipush (v := -11) C0 dX1_refusal_7 (by decide) ?_
    exact nr_i C0 hr dX1_refusal_9 h
def rmX1_isPlace : Room := { frames := 0, cells := 0, slots := 0, locals := 0 }
theorem ndX1_isPlace : yX1_isPlace.cls = RX1 ∧ yX1_isPlace.cls ≠ "java/lang/invoke/MethodHandle" ∧ yX1_isPlace.cls ≠ "java/lang/invoke/VarHandle" ∧ (parseMethodDescriptor yX1_isPlace.desc).map (fun d => d.parameters.length) = some 1 := by decide +kernel
set_option maxRecDepth 100000 in
set_option maxHeartbeats 4000000 in
theorem mX1_isPlace (l : Launch) (D : va_G) (B : nBT) (hB : nInj B) {k0 : Nat} (hk0 : nSh k0) (x1 : Int32) (σ : nS) {r : Int32}  (h : fX1_isPlace k0 x1 σ = some r) : nMi l D B yX1_isPlace wsX1_isPlace rmX1_isPlace [.ref (na B k0), .int x1] σ r σ := by
  refine nmet (cc := cX1_isPlace) (maxL := 2) (ret := (some .boolean)) (own := RX1) (av := [.ref (na B k0), .int x1]) (nQi D B r σ) hB (by decide) rfl rfl (Nat.le_of_ble_eq_true rfl) (fun p e s m args below meth c C0 hr => ?_)
  have hh0 : ∀ w ∈ wsX10, w ∈ wsX1_isPlace := by decide +kernel
  have hh1 := C0.2.2.2.2.1 (Cond.fieldLink RX1 28 "NotInTheCoin$Shelf" "size" "I") (by decide +kernel)
  refine nx_lv (lv' := [(0, .ref (na B k0)), (1, .int x1)]) [0, 1] rfl ?_
  rw [fX1_isPlace] at h
  refine nx_iload_n C0 1 dX1_isPlace_0 rfl ?_
  refine nx_if_lt (tgt := 16) C0 dX1_isPlace_1 (by decide) (fun q => ?_) (fun q => ?_)
  · have h := nift q h
    refine nx_iconst (v := 0) C0 dX1_isPlace_16 (by decide) ?_
    exact nr_z C0 hr (Or.inl rfl) dX1_isPlace_17 h
  · have h := niff q h
    refine nx_iload_n C0 1 dX1_isPlace_4 rfl ?_
    refine nx_aload_n C0 0 dX1_isPlace_5 rfl ?_
    refine nx_gX1_size C0 hk0 hh0 hh1 dX1_isPlace_6 ?_
    refine nx_icmp_ge (tgt := 16) C0 dX1_isPlace_9 (by decide) (fun q => ?_) (fun q => ?_)
    · have h := nift q h
      refine nx_iconst (v := 0) C0 dX1_isPlace_16 (by decide) ?_
      exact nr_z C0 hr (Or.inl rfl) dX1_isPlace_17 h
    · have h := niff q h
      refine nx_iconst (v := 1) C0 dX1_isPlace_12 (by decide) ?_
      refine nx_goto (tgt := 17) C0 dX1_isPlace_13 (by decide) ?_
      exact nr_z C0 hr (Or.inr rfl) dX1_isPlace_17 h
def rmX1_isStretch : Room := { frames := 0, cells := 0, slots := 0, locals := 0 }
theorem ndX1_isStretch : yX1_isStretch.cls = RX1 ∧ yX1_isStretch.cls ≠ "java/lang/invoke/MethodHandle" ∧ yX1_isStretch.cls ≠ "java/lang/invoke/VarHandle" ∧ (parseMethodDescriptor yX1_isStretch.desc).map (fun d => d.parameters.length) = some 2 := by decide +kernel
set_option maxRecDepth 100000 in
set_option maxHeartbeats 4000000 in
theorem mX1_isStretch (l : Launch) (D : va_G) (B : nBT) (hB : nInj B) {k0 : Nat} (hk0 : nSh k0) (x1 : Int32) (x2 : Int32) (σ : nS) {r : Int32}  (h : fX1_isStretch k0 x1 x2 σ = some r) : nMi l D B yX1_isStretch wsX1_isStretch rmX1_isStretch [.ref (na B k0), .int x1, .int x2] σ r σ := by
  refine nmet (cc := cX1_isStretch) (maxL := 3) (ret := (some .boolean)) (own := RX1) (av := [.ref (na B k0), .int x1, .int x2]) (nQi D B r σ) hB (by decide) rfl rfl (Nat.le_of_ble_eq_true rfl) (fun p e s m args below meth c C0 hr => ?_)
  have hh0 : ∀ w ∈ wsX10, w ∈ wsX1_isStretch := by decide +kernel
  have hh1 := C0.2.2.2.2.1 (Cond.fieldLink RX1 28 "NotInTheCoin$Shelf" "size" "I") (by decide +kernel)
  refine nx_lv (lv' := [(0, .ref (na B k0)), (1, .int x1), (2, .int x2)]) [0, 1, 2] rfl ?_
  rw [fX1_isStretch] at h
  refine nx_iload_n C0 1 dX1_isStretch_0 rfl ?_
  refine nx_if_lt (tgt := 30) C0 dX1_isStretch_1 (by decide) (fun q => ?_) (fun q => ?_)
  · have h := nift q h
    refine nx_iconst (v := 0) C0 dX1_isStretch_30 (by decide) ?_
    exact nr_z C0 hr (Or.inl rfl) dX1_isStretch_31 h
  · have h := niff q h
    refine nx_iload_n C0 1 dX1_isStretch_4 rfl ?_
    refine nx_aload_n C0 0 dX1_isStretch_5 rfl ?_
    refine nx_gX1_size C0 hk0 hh0 hh1 dX1_isStretch_6 ?_
    refine nx_icmp_gt (tgt := 30) C0 dX1_isStretch_9 (by decide) (fun q => ?_) (fun q => ?_)
    · have h := nift q h
      refine nx_iconst (v := 0) C0 dX1_isStretch_30 (by decide) ?_
      exact nr_z C0 hr (Or.inl rfl) dX1_isStretch_31 h
    · have h := niff q h
      refine nx_iload_n C0 2 dX1_isStretch_12 rfl ?_
      refine nx_if_lt (tgt := 30) C0 dX1_isStretch_13 (by decide) (fun q => ?_) (fun q => ?_)
      · have h := nift q h
        refine nx_iconst (v := 0) C0 dX1_isStretch_30 (by decide) ?_
        exact nr_z C0 hr (Or.inl rfl) dX1_isStretch_31 h
      · have h := niff q h
        refine nx_iload_n C0 2 dX1_isStretch_16 rfl ?_
        refine nx_aload_n C0 0 dX1_isStretch_17 rfl ?_
        refine nx_gX1_size C0 hk0 hh0 hh1 dX1_isStretch_18 ?_
        refine nx_iload_n C0 1 dX1_isStretch_21 rfl ?_
        refine nx_isub C0 dX1_isStretch_22 ?_
        refine nx_icmp_gt (tgt := 30) C0 dX1_isStretch_23 (by decide) (fun q => ?_) (fun q => ?_)
        · have h := nift q h
          refine nx_iconst (v := 0) C0 dX1_isStretch_30 (by decide) ?_
          exact nr_z C0 hr (Or.inl rfl) dX1_isStretch_31 h
        · have h := niff q h
          refine nx_iconst (v := 1) C0 dX1_isStretch_26 (by decide) ?_
          refine nx_goto (tgt := 31) C0 dX1_isStretch_27 (by decide) ?_
          exact nr_z C0 hr (Or.inr rfl) dX1_isStretch_31 h
def rmX1_fill : Room := { frames := 0, cells := 0, slots := 0, locals := 0 }
theorem ndX1_fill : yX1_fill.cls = RX1 ∧ yX1_fill.cls ≠ "java/lang/invoke/MethodHandle" ∧ yX1_fill.cls ≠ "java/lang/invoke/VarHandle" ∧ (parseMethodDescriptor yX1_fill.desc).map (fun d => d.parameters.length) = some 2 := by decide +kernel
set_option maxRecDepth 100000 in
set_option maxHeartbeats 4000000 in
theorem mX1_fill (l : Launch) (D : va_G) (B : nBT) (hB : nInj B) {k0 : Nat} (hk0 : nSh k0) (x1 : Int32) (x2 : Int32) (σ : nS)  {σ1 : nS} (h : fX1_fill k0 x1 x2 σ = some ((), σ1)) : nMv l D B yX1_fill wsX1_fill rmX1_fill [.ref (na B k0), .int x1, .int x2] σ σ1 := by
  refine nmet (cc := cX1_fill) (maxL := 3) (ret := none) (own := RX1) (av := [.ref (na B k0), .int x1, .int x2]) (nQv D B σ1) hB (by decide) rfl rfl (Nat.le_of_ble_eq_true rfl) (fun p e s m args below meth c C0 hr => ?_)
  have hh0 : ∀ w ∈ wsX10, w ∈ wsX1_fill := by decide +kernel
  have hh1 := C0.2.2.2.2.1 (Cond.fieldLink RX1 25 "NotInTheCoin$Shelf" "sort" "I") (by decide +kernel)
  have hh2 := C0.2.2.2.2.1 (Cond.fieldLink RX1 9 "NotInTheCoin$Shelf" "cells" "[I") (by decide +kernel)
  refine nx_lv (lv' := [(0, .ref (na B k0)), (1, .int x1), (2, .int x2)]) [0, 1, 2] rfl ?_
  rw [fX1_fill] at h
  refine nx_aload_n C0 0 dX1_fill_0 rfl ?_
  refine nx_gX1_sort C0 hk0 hh0 hh1 dX1_fill_1 ?_
  refine nx_if_ne (tgt := 18) C0 dX1_fill_4 (by decide) (fun q => ?_) (fun q => ?_)
  · have h := niff q h
    refine nx_aload_n C0 0 dX1_fill_18 rfl ?_
    refine nx_gX1_sort C0 hk0 hh0 hh1 dX1_fill_19 ?_
    refine nx_iconst (v := 1) C0 dX1_fill_22 (by decide) ?_
    refine nx_icmp_ne (tgt := 37) C0 dX1_fill_23 (by decide) (fun q => ?_) (fun q => ?_)
    · have h := niff q h
      refine nx_aload_n C0 0 dX1_fill_37 rfl ?_
      refine nx_gX1_cells C0 hk0 hh0 hh2 dX1_fill_38 ?_
      refine nx_iload_n C0 1 dX1_fill_41 rfl ?_
      refine nx_iload_n C0 2 dX1_fill_42 rfl ?_
      obtain ⟨g1, h⟩ := nguard h
      obtain ⟨t2, et2, h⟩ := nlet h
      refine nx_iast C0 (nSh_c hk0) g1 dX1_fill_43 et2 ?_
      exact nr_v2 C0 hr dX1_fill_44 h
    · have h := nift q h
      refine nx_aload_n C0 0 dX1_fill_26 rfl ?_
      refine nx_gX1_cells C0 hk0 hh0 hh2 dX1_fill_27 ?_
      refine nx_iload_n C0 1 dX1_fill_30 rfl ?_
      refine nx_iload_n C0 2 dX1_fill_31 rfl ?_
      refine nx_i2s C0 dX1_fill_32 ?_
      obtain ⟨g3, h⟩ := nguard h
      obtain ⟨t4, et4, h⟩ := nlet h
      refine nx_iast C0 (nSh_c hk0) g3 dX1_fill_33 et4 ?_
      refine nx_goto (tgt := 44) C0 dX1_fill_34 (by decide) ?_
      exact nr_v2 C0 hr dX1_fill_44 h
  · have h := nift q h
    refine nx_aload_n C0 0 dX1_fill_7 rfl ?_
    refine nx_gX1_cells C0 hk0 hh0 hh2 dX1_fill_8 ?_
    refine nx_iload_n C0 1 dX1_fill_11 rfl ?_
    refine nx_iload_n C0 2 dX1_fill_12 rfl ?_
    refine nx_i2b C0 dX1_fill_13 ?_
    obtain ⟨g5, h⟩ := nguard h
    obtain ⟨t6, et6, h⟩ := nlet h
    refine nx_iast C0 (nSh_c hk0) g5 dX1_fill_14 et6 ?_
    refine nx_goto (tgt := 44) C0 dX1_fill_15 (by decide) ?_
    exact nr_v2 C0 hr dX1_fill_44 h
def rmX1_isSkipped : Room := { frames := 0, cells := 0, slots := 0, locals := 0 }
theorem ndX1_isSkipped : yX1_isSkipped.cls = RX1 ∧ yX1_isSkipped.cls ≠ "java/lang/invoke/MethodHandle" ∧ yX1_isSkipped.cls ≠ "java/lang/invoke/VarHandle" ∧ (parseMethodDescriptor yX1_isSkipped.desc).map (fun d => d.parameters.length) = some 1 := by decide +kernel
set_option maxRecDepth 100000 in
set_option maxHeartbeats 4000000 in
theorem mX1_isSkipped (l : Launch) (D : va_G) (B : nBT) (hB : nInj B) {k0 : Nat} (hk0 : nSh k0) (x1 : Int32) (σ : nS) {r : Int32}  (h : fX1_isSkipped k0 x1 σ = some r) : nMi l D B yX1_isSkipped wsX1_isSkipped rmX1_isSkipped [.ref (na B k0), .int x1] σ r σ := by
  refine nmet (cc := cX1_isSkipped) (maxL := 2) (ret := (some .boolean)) (own := RX1) (av := [.ref (na B k0), .int x1]) (nQi D B r σ) hB (by decide) rfl rfl (Nat.le_of_ble_eq_true rfl) (fun p e s m args below meth c C0 hr => ?_)
  have hh0 : ∀ w ∈ wsX10, w ∈ wsX1_isSkipped := by decide +kernel
  have hh1 := C0.2.2.2.2.1 (Cond.fieldLink RX1 25 "NotInTheCoin$Shelf" "sort" "I") (by decide +kernel)
  have hh2 := C0.2.2.2.2.1 (Cond.fieldLink RX1 9 "NotInTheCoin$Shelf" "cells" "[I") (by decide +kernel)
  have hh3 := C0.2.2.2.2.1 (Cond.constant RX1 31 (-2147483648)) (by decide +kernel)
  have hfX1_isSkipped_b46 : ∀  (z0 : Int32) (z1 : Int32) (h : fX1_isSkipped_b46  z0 z1 σ = some r), nJ p l e rmX1_isSkipped s m args below meth c 0 0 (MQ below (nQi D B r σ s.heap.size) args s 0 0 (nA B s.heap.size)) D B 2 46 [] [.int z0, .int z1] σ := by
    intro  z0 z1 h
    rw [fX1_isSkipped_b46] at h
    refine nx_icmp_ne (tgt := 53) C0 dX1_isSkipped_46 (by decide) (fun q => ?_) (fun q => ?_)
    · have h := niff q h
      refine nx_iconst (v := 0) C0 dX1_isSkipped_53 (by decide) ?_
      exact nr_z C0 hr (Or.inl rfl) dX1_isSkipped_54 h
    · have h := nift q h
      refine nx_iconst (v := 1) C0 dX1_isSkipped_49 (by decide) ?_
      refine nx_goto (tgt := 54) C0 dX1_isSkipped_50 (by decide) ?_
      exact nr_z C0 hr (Or.inr rfl) dX1_isSkipped_54 h
  refine nx_lv (lv' := [(0, .ref (na B k0)), (1, .int x1)]) [0, 1] rfl ?_
  rw [fX1_isSkipped] at h
  refine nx_aload_n C0 0 dX1_isSkipped_0 rfl ?_
  refine nx_gX1_sort C0 hk0 hh0 hh1 dX1_isSkipped_1 ?_
  refine nx_if_ne (tgt := 24) C0 dX1_isSkipped_4 (by decide) (fun q => ?_) (fun q => ?_)
  · have h := niff q h
    refine nx_aload_n C0 0 dX1_isSkipped_24 rfl ?_
    refine nx_gX1_cells C0 hk0 hh0 hh2 dX1_isSkipped_25 ?_
    refine nx_iload_n C0 1 dX1_isSkipped_28 rfl ?_
    obtain ⟨g1, h⟩ := nguard h
    refine nx_iald C0 (nSh_c hk0) g1 dX1_isSkipped_29 ?_
    refine nx_aload_n C0 0 dX1_isSkipped_30 rfl ?_
    refine nx_gX1_sort C0 hk0 hh0 hh1 dX1_isSkipped_31 ?_
    refine nx_iconst (v := 1) C0 dX1_isSkipped_34 (by decide) ?_
    refine nx_icmp_ne (tgt := 44) C0 dX1_isSkipped_35 (by decide) (fun q => ?_) (fun q => ?_)
    · have h := niff q h
      refine nx_ldc (v := -2147483648) C0 dX1_isSkipped_44 hh3 ?_
      refine nx_lv (lv' := []) [] rfl ?_
      exact hfX1_isSkipped_b46 (-2147483648 : Int32) (σ (k0 + 1) (x1).toNatClampNeg) h
    · have h := nift q h
      refine nx_sipush (v := -32768) C0 dX1_isSkipped_38 (by decide) ?_
      refine nx_goto (tgt := 46) C0 dX1_isSkipped_41 (by decide) ?_
      refine nx_lv (lv' := []) [] rfl ?_
      exact hfX1_isSkipped_b46 (-32768 : Int32) (σ (k0 + 1) (x1).toNatClampNeg) h
  · have h := nift q h
    refine nx_aload_n C0 0 dX1_isSkipped_7 rfl ?_
    refine nx_gX1_cells C0 hk0 hh0 hh2 dX1_isSkipped_8 ?_
    refine nx_iload_n C0 1 dX1_isSkipped_11 rfl ?_
    obtain ⟨g2, h⟩ := nguard h
    refine nx_iald C0 (nSh_c hk0) g2 dX1_isSkipped_12 ?_
    refine nx_bipush (v := -128) C0 dX1_isSkipped_13 (by decide) ?_
    refine nx_icmp_ne (tgt := 22) C0 dX1_isSkipped_15 (by decide) (fun q => ?_) (fun q => ?_)
    · have h := niff q h
      refine nx_iconst (v := 0) C0 dX1_isSkipped_22 (by decide) ?_
      exact nr_z C0 hr (Or.inl rfl) dX1_isSkipped_23 h
    · have h := nift q h
      refine nx_iconst (v := 1) C0 dX1_isSkipped_18 (by decide) ?_
      refine nx_goto (tgt := 23) C0 dX1_isSkipped_19 (by decide) ?_
      exact nr_z C0 hr (Or.inr rfl) dX1_isSkipped_23 h
def rmX1_digit : Room := { frames := 1, cells := 0, slots := 0, locals := 21 }
theorem ndX1_digit : yX1_digit.cls = RX1 ∧ yX1_digit.cls ≠ "java/lang/invoke/MethodHandle" ∧ yX1_digit.cls ≠ "java/lang/invoke/VarHandle" ∧ (parseMethodDescriptor yX1_digit.desc).map (fun d => d.parameters.length) = some 1 := by decide +kernel
set_option maxRecDepth 100000 in
set_option maxHeartbeats 4000000 in
theorem mX1_digit (l : Launch) (D : va_G) (B : nBT) (hB : nInj B) {k0 : Nat} (hk0 : nSh k0) (x1 : Int32) (σ : nS) {r : Int32}  (h : fX1_digit k0 x1 σ = some r) : nMi l D B yX1_digit wsX1_digit rmX1_digit [.ref (na B k0), .int x1] σ r σ := by
  refine nmet (cc := cX1_digit) (maxL := 2) (ret := (some .int)) (own := RX1) (av := [.ref (na B k0), .int x1]) (nQi D B r σ) hB (by decide) rfl rfl (Nat.le_of_ble_eq_true rfl) (fun p e s m args below meth c C0 hr => ?_)
  have hh0 : ∀ w ∈ wsX10, w ∈ wsX1_digit := by decide +kernel
  have hh1 := C0.2.2.2.2.1 (Cond.fieldLink RX1 9 "NotInTheCoin$Shelf" "cells" "[I") (by decide +kernel)
  refine nx_lv (lv' := [(0, .ref (na B k0)), (1, .int x1)]) [0, 1] rfl ?_
  rw [fX1_digit] at h
  refine nx_aload_n C0 0 dX1_digit_0 rfl ?_
  refine nx_iload_n C0 1 dX1_digit_1 rfl ?_
  obtain ⟨r2, c1, h⟩ := nbind h
  refine nx_cVi (ci := 1) (n := 1) (As := [.int x1]) (st := []) C0 (mX1_isPlace l D B hB hk0 x1 σ c1) gX1_digit_X1_isPlace rfl rfl rfl ndX1_isPlace ⟨Nat.le_of_ble_eq_true rfl, Nat.le_of_ble_eq_true rfl⟩ (by have := nSh_lt hk0; omega) (nSh_e hk0 _) rfl rfl rfl (Nat.le_of_ble_eq_true rfl) rfl dX1_digit_2 ?_
  refine nx_if_eq (tgt := 20) C0 dX1_digit_5 (by decide) (fun q => ?_) (fun q => ?_)
  · have h := nift q h
    refine nx_iconst (v := 0) C0 dX1_digit_20 (by decide) ?_
    exact nr_i C0 hr dX1_digit_21 h
  · have h := niff q h
    refine nx_aload_n C0 0 dX1_digit_8 rfl ?_
    refine nx_gX1_cells C0 hk0 hh0 hh1 dX1_digit_9 ?_
    refine nx_iload_n C0 1 dX1_digit_12 rfl ?_
    obtain ⟨g3, h⟩ := nguard h
    refine nx_iald C0 (nSh_c hk0) g3 dX1_digit_13 ?_
    refine nx_bipush (v := 48) C0 dX1_digit_14 (by decide) ?_
    refine nx_isub C0 dX1_digit_16 ?_
    refine nx_goto (tgt := 21) C0 dX1_digit_17 (by decide) ?_
    exact nr_i C0 hr dX1_digit_21 h
def rmX2_join : Room := { frames := 1, cells := 0, slots := 0, locals := 21 }
theorem ndX2_join : yX2_join.cls = RX2 ∧ yX2_join.cls ≠ "java/lang/invoke/MethodHandle" ∧ yX2_join.cls ≠ "java/lang/invoke/VarHandle" ∧ (parseMethodDescriptor yX2_join.desc).map (fun d => d.parameters.length) = some 2 := by decide +kernel
set_option maxRecDepth 100000 in
set_option maxHeartbeats 4000000 in
theorem mX2_join (l : Launch) (D : va_G) (B : nBT) (hB : nInj B) (x1 : Int32) (x2 : Int32) (σ : nS)  {σ1 : nS} (h : fX2_join x1 x2 σ = some ((), σ1)) : nMv l D B yX2_join wsX2_join rmX2_join [.ref (na B 59), .int x1, .int x2] σ σ1 := by
  refine nmet (cc := cX2_join) (maxL := 5) (ret := none) (own := RX2) (av := [.ref (na B 59), .int x1, .int x2]) (nQv D B σ1) hB (by decide) rfl rfl (Nat.le_of_ble_eq_true rfl) (fun p e s m args below meth c C0 hr => ?_)
  have hh0 : ∀ w ∈ wsX20, w ∈ wsX2_join := by decide +kernel
  have hh1 := C0.2.2.2.2.1 (Cond.fieldLink RX2 9 "NotInTheCoin$ShortList" "rootOf" "[I") (by decide +kernel)
  have hh2 := C0.2.2.2.2.1 (Cond.methodLink RX2 50 Lib.Math.min.name) (by decide +kernel)
  have hh3 := C0.2.2.2.2.1 (Cond.static Lib.Math.min.name) (by decide +kernel)
  have hh4 := C0.2.2.2.2.1 (Cond.initialized "java/lang/Math") (by decide +kernel)
  have hh5 := C0.2.2.2.2.1 (Cond.code Lib.Math.min.name Lib.Math.min.code 2 (some .int)) (by decide +kernel)
  have hfX2_join_b9 : ∀  (n : Nat) (a1 : Int32) (a2 : Int32) (a3 : Int32) (a4 : Int32) (σ : nS) (h : fX2_join_b9  n a1 a2 a3 a4 σ = some ((), σ1)), nJ p l e rmX2_join s m args below meth c 0 0 (MQ below (nQv D B σ1 s.heap.size) args s 0 0 (nA B s.heap.size)) D B 5 9 [(0, .ref (na B 59)), (1, .int a1), (2, .int a2), (3, .int a3), (4, .int a4)] [] σ := by
    intro  n
    induction n with
    | zero => intro a1 a2 a3 a4 σ h; cases h
    | succ n ih =>
        intro a1 a2 a3 a4 σ h
        rw [fX2_join_b9] at h
        refine nx_iload C0 4 dX2_join_9 rfl ?_
        refine nx_bipush (v := 8) C0 dX2_join_11 (by decide) ?_
        refine nx_icmp_ge (tgt := 52) C0 dX2_join_13 (by decide) (fun q => ?_) (fun q => ?_)
        · have h := nift q h
          exact nr_v2 C0 hr dX2_join_52 h
        · have h := niff q h
          refine nx_aload_n C0 0 dX2_join_16 rfl ?_
          refine nx_gX2_rootOf C0 hh0 hh1 dX2_join_17 ?_
          refine nx_iload C0 4 dX2_join_20 rfl ?_
          obtain ⟨g1, h⟩ := nguard h
          refine nx_iald C0 nI_60 g1 dX2_join_22 ?_
          refine nx_iload_n C0 1 dX2_join_23 rfl ?_
          refine nx_icmp_eq (tgt := 38) C0 dX2_join_24 (by decide) (fun q => ?_) (fun q => ?_)
          · have h := nift q h
            refine nx_aload_n C0 0 dX2_join_38 rfl ?_
            refine nx_gX2_rootOf C0 hh0 hh1 dX2_join_39 ?_
            refine nx_iload C0 4 dX2_join_42 rfl ?_
            refine nx_iload_n C0 3 dX2_join_44 rfl ?_
            obtain ⟨g2, h⟩ := nguard h
            obtain ⟨t3, et3, h⟩ := nlet h
            refine nx_iast C0 nI_60 g2 dX2_join_45 et3 ?_
            obtain ⟨v4, ev4, h⟩ := nlet h
            refine nx_iinc (v := v4) (lv' := [(4, .int v4), (0, .ref (na B 59)), (1, .int a1), (2, .int a2), (3, .int a3)]) C0 4 dX2_join_46 rfl ev4 (by decide) rfl ?_
            refine nx_goto (tgt := 9) C0 dX2_join_49 (by decide) ?_
            refine nx_lv (lv' := [(0, .ref (na B 59)), (1, .int a1), (2, .int a2), (3, .int a3), (4, .int v4)]) [1, 2, 3, 4, 0] rfl ?_
            exact ih a1 a2 a3 v4 t3 h
          · have h := niff q h
            refine nx_aload_n C0 0 dX2_join_27 rfl ?_
            refine nx_gX2_rootOf C0 hh0 hh1 dX2_join_28 ?_
            refine nx_iload C0 4 dX2_join_31 rfl ?_
            obtain ⟨g5, h⟩ := nguard h
            refine nx_iald C0 nI_60 g5 dX2_join_33 ?_
            refine nx_iload_n C0 2 dX2_join_34 rfl ?_
            refine nx_icmp_ne (tgt := 46) C0 dX2_join_35 (by decide) (fun q => ?_) (fun q => ?_)
            · have h := niff q h
              obtain ⟨v6, ev6, h⟩ := nlet h
              refine nx_iinc (v := v6) (lv' := [(4, .int v6), (0, .ref (na B 59)), (1, .int a1), (2, .int a2), (3, .int a3)]) C0 4 dX2_join_46 rfl ev6 (by decide) rfl ?_
              refine nx_goto (tgt := 9) C0 dX2_join_49 (by decide) ?_
              refine nx_lv (lv' := [(0, .ref (na B 59)), (1, .int a1), (2, .int a2), (3, .int a3), (4, .int v6)]) [1, 2, 3, 4, 0] rfl ?_
              exact ih a1 a2 a3 v6 σ h
            · have h := nift q h
              refine nx_aload_n C0 0 dX2_join_38 rfl ?_
              refine nx_gX2_rootOf C0 hh0 hh1 dX2_join_39 ?_
              refine nx_iload C0 4 dX2_join_42 rfl ?_
              refine nx_iload_n C0 3 dX2_join_44 rfl ?_
              obtain ⟨g7, h⟩ := nguard h
              obtain ⟨t8, et8, h⟩ := nlet h
              refine nx_iast C0 nI_60 g7 dX2_join_45 et8 ?_
              obtain ⟨v9, ev9, h⟩ := nlet h
              refine nx_iinc (v := v9) (lv' := [(4, .int v9), (0, .ref (na B 59)), (1, .int a1), (2, .int a2), (3, .int a3)]) C0 4 dX2_join_46 rfl ev9 (by decide) rfl ?_
              refine nx_goto (tgt := 9) C0 dX2_join_49 (by decide) ?_
              refine nx_lv (lv' := [(0, .ref (na B 59)), (1, .int a1), (2, .int a2), (3, .int a3), (4, .int v9)]) [1, 2, 3, 4, 0] rfl ?_
              exact ih a1 a2 a3 v9 t8 h
  refine nx_lv (lv' := [(0, .ref (na B 59)), (1, .int x1), (2, .int x2)]) [0, 1, 2] rfl ?_
  rw [fX2_join] at h
  refine nx_iload_n C0 1 dX2_join_0 rfl ?_
  refine nx_iload_n C0 2 dX2_join_1 rfl ?_
  refine nx_mmin C0 hh2 hh3 hh4 hh5 ⟨Nat.le_of_ble_eq_true rfl, Nat.le_of_ble_eq_true rfl⟩ dX2_join_2 ?_
  obtain ⟨v10, ev10, h⟩ := nlet h
  refine nx_istore_n (i := 3) (y := v10) (lv' := [(3, .int v10), (0, .ref (na B 59)), (1, .int x1), (2, .int x2)]) C0 dX2_join_5 rfl (by decide) ev10 rfl ?_
  refine nx_iconst (v := 0) C0 dX2_join_6 (by decide) ?_
  refine nx_istore (i := 4) (y := (0 : Int32)) (lv' := [(4, .int (0 : Int32)), (3, .int v10), (0, .ref (na B 59)), (1, .int x1), (2, .int x2)]) C0 dX2_join_7 (by decide) rfl rfl ?_
  refine nx_lv (lv' := [(0, .ref (na B 59)), (1, .int x1), (2, .int x2), (3, .int v10), (4, .int (0 : Int32))]) [2, 3, 4, 1, 0] rfl ?_
  exact hfX2_join_b9 4096 x1 x2 v10 (0 : Int32) σ h
def rmX2_isGainsaid : Room := { frames := 1, cells := 0, slots := 0, locals := 21 }
theorem ndX2_isGainsaid : yX2_isGainsaid.cls = RX2 ∧ yX2_isGainsaid.cls ≠ "java/lang/invoke/MethodHandle" ∧ yX2_isGainsaid.cls ≠ "java/lang/invoke/VarHandle" ∧ (parseMethodDescriptor yX2_isGainsaid.desc).map (fun d => d.parameters.length) = some 0 := by decide +kernel
set_option maxRecDepth 100000 in
set_option maxHeartbeats 4000000 in
theorem mX2_isGainsaid (l : Launch) (D : va_G) (B : nBT) (hB : nInj B)  (σ : nS) {r : Int32}  (h : fX2_isGainsaid σ = some r) : nMi l D B yX2_isGainsaid wsX2_isGainsaid rmX2_isGainsaid [.ref (na B 59)] σ r σ := by
  refine nmet (cc := cX2_isGainsaid) (maxL := 2) (ret := (some .boolean)) (own := RX2) (av := [.ref (na B 59)]) (nQi D B r σ) hB (by decide) rfl rfl (Nat.le_of_ble_eq_true rfl) (fun p e s m args below meth c C0 hr => ?_)
  have hh0 : ∀ w ∈ wsX20, w ∈ wsX2_isGainsaid := by decide +kernel
  have hh1 := C0.2.2.2.2.1 (Cond.fieldLink RX2 15 "NotInTheCoin$ShortList" "barredOf" "[I") (by decide +kernel)
  have hh2 := C0.2.2.2.2.1 (Cond.static yX5_has) (by decide +kernel)
  have hh3 := C0.2.2.2.2.1 (Cond.initialized RX5) (by decide +kernel)
  have hfX2_isGainsaid_b2 : ∀  (n : Nat) (a1 : Int32) (h : fX2_isGainsaid_b2  n a1 σ = some r), nJ p l e rmX2_isGainsaid s m args below meth c 0 0 (MQ below (nQi D B r σ s.heap.size) args s 0 0 (nA B s.heap.size)) D B 2 2 [(0, .ref (na B 59)), (1, .int a1)] [] σ := by
    intro  n
    induction n with
    | zero => intro a1 h; cases h
    | succ n ih =>
        intro a1 h
        rw [fX2_isGainsaid_b2] at h
        refine nx_iload_n C0 1 dX2_isGainsaid_2 rfl ?_
        refine nx_bipush (v := 8) C0 dX2_isGainsaid_3 (by decide) ?_
        refine nx_icmp_ge (tgt := 29) C0 dX2_isGainsaid_5 (by decide) (fun q => ?_) (fun q => ?_)
        · have h := nift q h
          refine nx_iconst (v := 0) C0 dX2_isGainsaid_29 (by decide) ?_
          exact nr_z C0 hr (Or.inl rfl) dX2_isGainsaid_30 h
        · have h := niff q h
          refine nx_aload_n C0 0 dX2_isGainsaid_8 rfl ?_
          refine nx_gX2_barredOf C0 hh0 hh1 dX2_isGainsaid_9 ?_
          refine nx_iload_n C0 1 dX2_isGainsaid_12 rfl ?_
          obtain ⟨g1, h⟩ := nguard h
          refine nx_iald C0 nI_61 g1 dX2_isGainsaid_13 ?_
          refine nx_iload_n C0 1 dX2_isGainsaid_14 rfl ?_
          obtain ⟨r3, c2, h⟩ := nbind h
          refine nx_cNi (n := 2) (As := [.int (σ 61 (a1).toNatClampNeg), .int a1]) (st := []) C0 (mX5_has l D B hB (σ 61 (a1).toNatClampNeg) a1 σ c2) gX2_isGainsaid_X5_has_n29 (by decide +kernel) hh2 hh3 rfl rfl rfl ndX5_has ⟨Nat.le_of_ble_eq_true rfl, Nat.le_of_ble_eq_true rfl⟩ rfl (Nat.le_of_ble_eq_true rfl) rfl dX2_isGainsaid_15 ?_
          refine nx_if_eq (tgt := 23) C0 dX2_isGainsaid_18 (by decide) (fun q => ?_) (fun q => ?_)
          · have h := nift q h
            obtain ⟨v4, ev4, h⟩ := nlet h
            refine nx_iinc (v := v4) (lv' := [(1, .int v4), (0, .ref (na B 59))]) C0 1 dX2_isGainsaid_23 rfl ev4 (by decide) rfl ?_
            refine nx_goto (tgt := 2) C0 dX2_isGainsaid_26 (by decide) ?_
            refine nx_lv (lv' := [(0, .ref (na B 59)), (1, .int v4)]) [1, 0] rfl ?_
            exact ih v4 h
          · have h := niff q h
            refine nx_iconst (v := 1) C0 dX2_isGainsaid_21 (by decide) ?_
            exact nr_z C0 hr (Or.inr rfl) dX2_isGainsaid_22 h
  refine nx_lv (lv' := [(0, .ref (na B 59))]) [0] rfl ?_
  rw [fX2_isGainsaid] at h
  refine nx_iconst (v := 0) C0 dX2_isGainsaid_0 (by decide) ?_
  refine nx_istore_n (i := 1) (y := (0 : Int32)) (lv' := [(1, .int (0 : Int32)), (0, .ref (na B 59))]) C0 dX2_isGainsaid_1 rfl (by decide) rfl rfl ?_
  refine nx_lv (lv' := [(0, .ref (na B 59)), (1, .int (0 : Int32))]) [1, 0] rfl ?_
  exact hfX2_isGainsaid_b2 4096 (0 : Int32) h
def rmX2_read : Room := { frames := 2, cells := 0, slots := 0, locals := 45 }
theorem ndX2_read : yX2_read.cls = RX2 ∧ yX2_read.cls ≠ "java/lang/invoke/MethodHandle" ∧ yX2_read.cls ≠ "java/lang/invoke/VarHandle" ∧ (parseMethodDescriptor yX2_read.desc).map (fun d => d.parameters.length) = some 1 := by decide +kernel
set_option maxRecDepth 100000 in
set_option maxHeartbeats 4000000 in
theorem mX2_read (l : Launch) (D : va_G) (B : nBT) (hB : nInj B) {k1 : Nat} (hk1 : nSh k1) (σ : nS) {r : Int32} {σ1 : nS} (h : fX2_read k1 σ = some (r, σ1)) : nMi l D B yX2_read wsX2_read rmX2_read [.ref (na B 59), .ref (na B k1)] σ r σ1 := by
  refine nmet (cc := cX2_read) (maxL := 5) (ret := (some .boolean)) (own := RX2) (av := [.ref (na B 59), .ref (na B k1)]) (nQi D B r σ1) hB (by decide) rfl rfl (Nat.le_of_ble_eq_true rfl) (fun p e s m args below meth c C0 hr => ?_)
  have hh0 : ∀ w ∈ wsX10, w ∈ wsX2_read := by decide +kernel
  have hh1 := C0.2.2.2.2.1 (Cond.fieldLink RX2 33 "NotInTheCoin$Shelf" "size" "I") (by decide +kernel)
  have hh2 : ∀ w ∈ wsX20, w ∈ wsX2_read := by decide +kernel
  have hh3 := C0.2.2.2.2.1 (Cond.fieldLink RX2 9 "NotInTheCoin$ShortList" "rootOf" "[I") (by decide +kernel)
  have hh4 := C0.2.2.2.2.1 (Cond.fieldLink RX2 39 "NotInTheCoin$Shelf" "cells" "[I") (by decide +kernel)
  have hh5 := C0.2.2.2.2.1 (Cond.fieldLink RX2 15 "NotInTheCoin$ShortList" "barredOf" "[I") (by decide +kernel)
  have hfX2_read_b88 : ∀  (n : Nat) (k_1 : Nat) (hk_1 : nSh k_1) (a2 : Int32) (σ : nS) (h : fX2_read_b88  n k_1 a2 σ = some (r, σ1)), nJ p l e rmX2_read s m args below meth c 0 0 (MQ below (nQi D B r σ1 s.heap.size) args s 0 0 (nA B s.heap.size)) D B 5 88 [(0, .ref (na B 59)), (1, .ref (na B k_1)), (2, .int a2)] [] σ := by
    intro  n
    induction n with
    | zero => intro k_1 hk_1 a2 σ h; cases h
    | succ n ih =>
        intro k_1 hk_1 a2 σ h
        rw [fX2_read_b88] at h
        refine nx_iload_n C0 2 dX2_read_88 rfl ?_
        refine nx_iconst (v := 2) C0 dX2_read_89 (by decide) ?_
        refine nx_iadd C0 dX2_read_90 ?_
        refine nx_aload_n C0 1 dX2_read_91 rfl ?_
        refine nx_gX1_size C0 hk_1 hh0 hh1 dX2_read_92 ?_
        refine nx_icmp_ge (tgt := 168) C0 dX2_read_95 (by decide) (fun q => ?_) (fun q => ?_)
        · have h := nift q h
          refine nx_aload_n C0 0 dX2_read_168 rfl ?_
          obtain ⟨r2, c1, h⟩ := nbind h
          refine nx_cVi (ci := 2) (n := 0) (As := []) (st := []) C0 (mX2_isGainsaid l D B hB σ c1) gX2_read_X2_isGainsaid rfl rfl rfl ndX2_isGainsaid ⟨Nat.le_of_ble_eq_true rfl, Nat.le_of_ble_eq_true rfl⟩ (by decide) rfl rfl rfl rfl (Nat.le_of_ble_eq_true rfl) rfl dX2_read_169 ?_
          refine nx_if_ne (tgt := 179) C0 dX2_read_172 (by decide) (fun q => ?_) (fun q => ?_)
          · have h := niff q h
            refine nx_iconst (v := 0) C0 dX2_read_179 (by decide) ?_
            exact nr_z2 C0 hr (Or.inl rfl) dX2_read_180 h
          · have h := nift q h
            refine nx_iconst (v := 1) C0 dX2_read_175 (by decide) ?_
            refine nx_goto (tgt := 180) C0 dX2_read_176 (by decide) ?_
            exact nr_z2 C0 hr (Or.inr rfl) dX2_read_180 h
        · have h := niff q h
          refine nx_aload_n C0 0 dX2_read_98 rfl ?_
          refine nx_gX2_rootOf C0 hh2 hh3 dX2_read_99 ?_
          refine nx_aload_n C0 1 dX2_read_102 rfl ?_
          refine nx_gX1_cells C0 hk_1 hh0 hh4 dX2_read_103 ?_
          refine nx_iload_n C0 2 dX2_read_106 rfl ?_
          obtain ⟨g3, h⟩ := nguard h
          refine nx_iald C0 (nSh_c hk_1) g3 dX2_read_107 ?_
          obtain ⟨g4, h⟩ := nguard h
          refine nx_iald C0 nI_60 g4 dX2_read_108 ?_
          obtain ⟨v5, ev5, h⟩ := nlet h
          refine nx_istore_n (i := 3) (y := v5) (lv' := [(3, .int v5), (0, .ref (na B 59)), (1, .ref (na B k_1)), (2, .int a2)]) C0 dX2_read_109 rfl (by decide) ev5 rfl ?_
          refine nx_aload_n C0 1 dX2_read_110 rfl ?_
          refine nx_gX2_rootOf C0 hh2 hh3 dX2_read_111 ?_
          refine nx_aload_n C0 2 dX2_read_114 rfl ?_
          refine nx_gX1_cells C0 hk_1 hh0 hh4 dX2_read_115 ?_
          refine nx_iload_n C0 3 dX2_read_118 rfl ?_
          refine nx_iconst (v := 1) C0 dX2_read_119 (by decide) ?_
          refine nx_iadd C0 dX2_read_120 ?_
          obtain ⟨g6, h⟩ := nguard h
          refine nx_iald C0 (nSh_c hk_1) g6 dX2_read_121 ?_
          obtain ⟨g7, h⟩ := nguard h
          refine nx_iald C0 nI_60 g7 dX2_read_122 ?_
          obtain ⟨v8, ev8, h⟩ := nlet h
          refine nx_istore (i := 4) (y := v8) (lv' := [(4, .int v8), (3, .int v5), (0, .ref (na B 59)), (1, .ref (na B k_1)), (2, .int a2)]) C0 dX2_read_123 (by decide) ev8 rfl ?_
          refine nx_aload_n C0 3 dX2_read_125 rfl ?_
          refine nx_gX1_cells C0 hk_1 hh0 hh4 dX2_read_126 ?_
          refine nx_iload_n C0 4 dX2_read_129 rfl ?_
          refine nx_iconst (v := 2) C0 dX2_read_130 (by decide) ?_
          refine nx_iadd C0 dX2_read_131 ?_
          obtain ⟨g9, h⟩ := nguard h
          refine nx_iald C0 (nSh_c hk_1) g9 dX2_read_132 ?_
          refine nx_if_ne (tgt := 162) C0 dX2_read_133 (by decide) (fun q => ?_) (fun q => ?_)
          · have h := niff q h
            obtain ⟨v10, ev10, h⟩ := nlet h
            refine nx_iinc (v := v10) (lv' := [(2, .int v10), (4, .int v8), (3, .int v5), (0, .ref (na B 59)), (1, .ref (na B k_1))]) C0 4 dX2_read_162 rfl ev10 (by decide) rfl ?_
            refine nx_goto (tgt := 88) C0 dX2_read_165 (by decide) ?_
            refine nx_lv (lv' := [(0, .ref (na B 59)), (1, .ref (na B k_1)), (2, .int v10)]) [3, 4, 0] rfl ?_
            exact ih k_1 hk_1 v10 σ h
          · have h := nift q h
            refine nx_aload_n C0 2 dX2_read_136 rfl ?_
            refine nx_gX2_barredOf C0 hh2 hh5 dX2_read_137 ?_
            refine nx_iload_n C0 1 dX2_read_140 rfl ?_
            refine nx_dup2 C0 dX2_read_141 rfl rfl ?_
            obtain ⟨g11, h⟩ := nguard h
            refine nx_iald C0 nI_61 g11 dX2_read_142 ?_
            refine nx_iconst (v := 1) C0 dX2_read_143 (by decide) ?_
            refine nx_iload C0 0 dX2_read_144 rfl ?_
            refine nx_ishl C0 dX2_read_146 ?_
            refine nx_ior C0 dX2_read_147 ?_
            obtain ⟨g12, h⟩ := nguard h
            obtain ⟨t13, et13, h⟩ := nlet h
            refine nx_iast C0 nI_61 g12 dX2_read_148 et13 ?_
            refine nx_aload_n C0 2 dX2_read_149 rfl ?_
            refine nx_gX2_barredOf C0 hh2 hh5 dX2_read_150 ?_
            refine nx_iload C0 0 dX2_read_153 rfl ?_
            refine nx_dup2 C0 dX2_read_155 rfl rfl ?_
            obtain ⟨g14, h⟩ := nguard h
            refine nx_iald C0 nI_61 g14 dX2_read_156 ?_
            refine nx_iconst (v := 1) C0 dX2_read_157 (by decide) ?_
            refine nx_iload_n C0 1 dX2_read_158 rfl ?_
            refine nx_ishl C0 dX2_read_159 ?_
            refine nx_ior C0 dX2_read_160 ?_
            obtain ⟨g15, h⟩ := nguard h
            obtain ⟨t16, et16, h⟩ := nlet h
            refine nx_iast C0 nI_61 g15 dX2_read_161 et16 ?_
            obtain ⟨v17, ev17, h⟩ := nlet h
            refine nx_iinc (v := v17) (lv' := [(2, .int v17), (4, .int v8), (3, .int v5), (0, .ref (na B 59)), (1, .ref (na B k_1))]) C0 4 dX2_read_162 rfl ev17 (by decide) rfl ?_
            refine nx_goto (tgt := 88) C0 dX2_read_165 (by decide) ?_
            refine nx_lv (lv' := [(0, .ref (na B 59)), (1, .ref (na B k_1)), (2, .int v17)]) [3, 4, 0] rfl ?_
            exact ih k_1 hk_1 v17 t16 h
  have hfX2_read_b30 : ∀  (n : Nat) (k_1 : Nat) (hk_1 : nSh k_1) (a2 : Int32) (σ : nS) (h : fX2_read_b30  n k_1 a2 σ = some (r, σ1)), nJ p l e rmX2_read s m args below meth c 0 0 (MQ below (nQi D B r σ1 s.heap.size) args s 0 0 (nA B s.heap.size)) D B 5 30 [(0, .ref (na B 59)), (1, .ref (na B k_1)), (2, .int a2)] [] σ := by
    intro  n
    induction n with
    | zero => intro k_1 hk_1 a2 σ h; cases h
    | succ n ih =>
        intro k_1 hk_1 a2 σ h
        rw [fX2_read_b30] at h
        refine nx_iload_n C0 2 dX2_read_30 rfl ?_
        refine nx_iconst (v := 2) C0 dX2_read_31 (by decide) ?_
        refine nx_iadd C0 dX2_read_32 ?_
        refine nx_aload_n C0 1 dX2_read_33 rfl ?_
        refine nx_gX1_size C0 hk_1 hh0 hh1 dX2_read_34 ?_
        refine nx_icmp_ge (tgt := 86) C0 dX2_read_37 (by decide) (fun q => ?_) (fun q => ?_)
        · have h := nift q h
          refine nx_iconst (v := 0) C0 dX2_read_86 (by decide) ?_
          refine nx_istore_n (i := 2) (y := (0 : Int32)) (lv' := [(2, .int (0 : Int32)), (0, .ref (na B 59)), (1, .ref (na B k_1))]) C0 dX2_read_87 rfl (by decide) rfl rfl ?_
          refine nx_lv (lv' := [(0, .ref (na B 59)), (1, .ref (na B k_1)), (2, .int (0 : Int32))]) [1, 2, 0] rfl ?_
          exact hfX2_read_b88 4096 k_1 hk_1 (0 : Int32) σ h
        · have h := niff q h
          refine nx_aload_n C0 1 dX2_read_40 rfl ?_
          refine nx_gX1_cells C0 hk_1 hh0 hh4 dX2_read_41 ?_
          refine nx_iload_n C0 2 dX2_read_44 rfl ?_
          refine nx_iconst (v := 2) C0 dX2_read_45 (by decide) ?_
          refine nx_iadd C0 dX2_read_46 ?_
          obtain ⟨g18, h⟩ := nguard h
          refine nx_iald C0 (nSh_c hk_1) g18 dX2_read_47 ?_
          refine nx_iconst (v := 1) C0 dX2_read_48 (by decide) ?_
          refine nx_icmp_ne (tgt := 80) C0 dX2_read_49 (by decide) (fun q => ?_) (fun q => ?_)
          · have h := niff q h
            obtain ⟨v19, ev19, h⟩ := nlet h
            refine nx_iinc (v := v19) (lv' := [(2, .int v19), (0, .ref (na B 59)), (1, .ref (na B k_1))]) C0 2 dX2_read_80 rfl ev19 (by decide) rfl ?_
            refine nx_goto (tgt := 30) C0 dX2_read_83 (by decide) ?_
            refine nx_lv (lv' := [(0, .ref (na B 59)), (1, .ref (na B k_1)), (2, .int v19)]) [1, 2, 0] rfl ?_
            exact ih k_1 hk_1 v19 σ h
          · have h := nift q h
            refine nx_aload_n C0 0 dX2_read_52 rfl ?_
            refine nx_aload_n C0 0 dX2_read_53 rfl ?_
            refine nx_gX2_rootOf C0 hh2 hh3 dX2_read_54 ?_
            refine nx_aload_n C0 1 dX2_read_57 rfl ?_
            refine nx_gX1_cells C0 hk_1 hh0 hh4 dX2_read_58 ?_
            refine nx_iload_n C0 2 dX2_read_61 rfl ?_
            obtain ⟨g20, h⟩ := nguard h
            refine nx_iald C0 (nSh_c hk_1) g20 dX2_read_62 ?_
            obtain ⟨g21, h⟩ := nguard h
            refine nx_iald C0 nI_60 g21 dX2_read_63 ?_
            refine nx_aload_n C0 0 dX2_read_64 rfl ?_
            refine nx_gX2_rootOf C0 hh2 hh3 dX2_read_65 ?_
            refine nx_aload_n C0 1 dX2_read_68 rfl ?_
            refine nx_gX1_cells C0 hk_1 hh0 hh4 dX2_read_69 ?_
            refine nx_iload_n C0 2 dX2_read_72 rfl ?_
            refine nx_iconst (v := 1) C0 dX2_read_73 (by decide) ?_
            refine nx_iadd C0 dX2_read_74 ?_
            obtain ⟨g22, h⟩ := nguard h
            refine nx_iald C0 (nSh_c hk_1) g22 dX2_read_75 ?_
            obtain ⟨g23, h⟩ := nguard h
            refine nx_iald C0 nI_60 g23 dX2_read_76 ?_
            obtain ⟨r25, t26, c24, h⟩ := nbind2 h
            refine nx_cVv (ci := 2) (n := 2) (As := [.int (σ 60 ((σ (k_1 + 1) (a2).toNatClampNeg)).toNatClampNeg), .int (σ 60 ((σ (k_1 + 1) ((a2 + (1 : Int32))).toNatClampNeg)).toNatClampNeg)]) (st := []) C0 (mX2_join l D B hB (σ 60 ((σ (k_1 + 1) (a2).toNatClampNeg)).toNatClampNeg) (σ 60 ((σ (k_1 + 1) ((a2 + (1 : Int32))).toNatClampNeg)).toNatClampNeg) σ c24) gX2_read_X2_join rfl rfl rfl ndX2_join ⟨Nat.le_of_ble_eq_true rfl, Nat.le_of_ble_eq_true rfl⟩ (by decide) rfl rfl rfl rfl (Nat.le_of_ble_eq_true rfl) rfl dX2_read_77 ?_
            obtain ⟨v27, ev27, h⟩ := nlet h
            refine nx_iinc (v := v27) (lv' := [(2, .int v27), (0, .ref (na B 59)), (1, .ref (na B k_1))]) C0 2 dX2_read_80 rfl ev27 (by decide) rfl ?_
            refine nx_goto (tgt := 30) C0 dX2_read_83 (by decide) ?_
            refine nx_lv (lv' := [(0, .ref (na B 59)), (1, .ref (na B k_1)), (2, .int v27)]) [1, 2, 0] rfl ?_
            exact ih k_1 hk_1 v27 t26 h
  have hfX2_read_b2 : ∀  (n : Nat) (k_1 : Nat) (hk_1 : nSh k_1) (a2 : Int32) (σ : nS) (h : fX2_read_b2  n k_1 a2 σ = some (r, σ1)), nJ p l e rmX2_read s m args below meth c 0 0 (MQ below (nQi D B r σ1 s.heap.size) args s 0 0 (nA B s.heap.size)) D B 5 2 [(0, .ref (na B 59)), (1, .ref (na B k_1)), (2, .int a2)] [] σ := by
    intro  n
    induction n with
    | zero => intro k_1 hk_1 a2 σ h; cases h
    | succ n ih =>
        intro k_1 hk_1 a2 σ h
        rw [fX2_read_b2] at h
        refine nx_iload_n C0 2 dX2_read_2 rfl ?_
        refine nx_bipush (v := 8) C0 dX2_read_3 (by decide) ?_
        refine nx_icmp_ge (tgt := 28) C0 dX2_read_5 (by decide) (fun q => ?_) (fun q => ?_)
        · have h := nift q h
          refine nx_iconst (v := 0) C0 dX2_read_28 (by decide) ?_
          refine nx_istore_n (i := 2) (y := (0 : Int32)) (lv' := [(2, .int (0 : Int32)), (0, .ref (na B 59)), (1, .ref (na B k_1))]) C0 dX2_read_29 rfl (by decide) rfl rfl ?_
          refine nx_lv (lv' := [(0, .ref (na B 59)), (1, .ref (na B k_1)), (2, .int (0 : Int32))]) [1, 2, 0] rfl ?_
          exact hfX2_read_b30 4096 k_1 hk_1 (0 : Int32) σ h
        · have h := niff q h
          refine nx_aload_n C0 0 dX2_read_8 rfl ?_
          refine nx_gX2_rootOf C0 hh2 hh3 dX2_read_9 ?_
          refine nx_iload_n C0 2 dX2_read_12 rfl ?_
          refine nx_iload_n C0 2 dX2_read_13 rfl ?_
          obtain ⟨g28, h⟩ := nguard h
          obtain ⟨t29, et29, h⟩ := nlet h
          refine nx_iast C0 nI_60 g28 dX2_read_14 et29 ?_
          refine nx_aload_n C0 0 dX2_read_15 rfl ?_
          refine nx_gX2_barredOf C0 hh2 hh5 dX2_read_16 ?_
          refine nx_iload_n C0 2 dX2_read_19 rfl ?_
          refine nx_iconst (v := 0) C0 dX2_read_20 (by decide) ?_
          obtain ⟨g30, h⟩ := nguard h
          obtain ⟨t31, et31, h⟩ := nlet h
          refine nx_iast C0 nI_61 g30 dX2_read_21 et31 ?_
          obtain ⟨v32, ev32, h⟩ := nlet h
          refine nx_iinc (v := v32) (lv' := [(2, .int v32), (0, .ref (na B 59)), (1, .ref (na B k_1))]) C0 2 dX2_read_22 rfl ev32 (by decide) rfl ?_
          refine nx_goto (tgt := 2) C0 dX2_read_25 (by decide) ?_
          refine nx_lv (lv' := [(0, .ref (na B 59)), (1, .ref (na B k_1)), (2, .int v32)]) [1, 2, 0] rfl ?_
          exact ih k_1 hk_1 v32 t31 h
  refine nx_lv (lv' := [(0, .ref (na B 59)), (1, .ref (na B k1))]) [0, 1] rfl ?_
  rw [fX2_read] at h
  refine nx_iconst (v := 0) C0 dX2_read_0 (by decide) ?_
  refine nx_istore_n (i := 2) (y := (0 : Int32)) (lv' := [(2, .int (0 : Int32)), (0, .ref (na B 59)), (1, .ref (na B k1))]) C0 dX2_read_1 rfl (by decide) rfl rfl ?_
  refine nx_lv (lv' := [(0, .ref (na B 59)), (1, .ref (na B k1)), (2, .int (0 : Int32))]) [1, 2, 0] rfl ?_
  exact hfX2_read_b2 4096 k1 hk1 (0 : Int32) σ h
def rmX2_isBarred : Room := { frames := 1, cells := 0, slots := 0, locals := 21 }
theorem ndX2_isBarred : yX2_isBarred.cls = RX2 ∧ yX2_isBarred.cls ≠ "java/lang/invoke/MethodHandle" ∧ yX2_isBarred.cls ≠ "java/lang/invoke/VarHandle" ∧ (parseMethodDescriptor yX2_isBarred.desc).map (fun d => d.parameters.length) = some 2 := by decide +kernel
set_option maxRecDepth 100000 in
set_option maxHeartbeats 4000000 in
theorem mX2_isBarred (l : Launch) (D : va_G) (B : nBT) (hB : nInj B) (x1 : Int32) (x2 : Int32) (σ : nS) {r : Int32}  (h : fX2_isBarred x1 x2 σ = some r) : nMi l D B yX2_isBarred wsX2_isBarred rmX2_isBarred [.ref (na B 59), .int x1, .int x2] σ r σ := by
  refine nmet (cc := cX2_isBarred) (maxL := 4) (ret := (some .boolean)) (own := RX2) (av := [.ref (na B 59), .int x1, .int x2]) (nQi D B r σ) hB (by decide) rfl rfl (Nat.le_of_ble_eq_true rfl) (fun p e s m args below meth c C0 hr => ?_)
  have hh0 : ∀ w ∈ wsX20, w ∈ wsX2_isBarred := by decide +kernel
  have hh1 := C0.2.2.2.2.1 (Cond.fieldLink RX2 15 "NotInTheCoin$ShortList" "barredOf" "[I") (by decide +kernel)
  have hh2 := C0.2.2.2.2.1 (Cond.static yX5_has) (by decide +kernel)
  have hh3 := C0.2.2.2.2.1 (Cond.initialized RX5) (by decide +kernel)
  have hh4 := C0.2.2.2.2.1 (Cond.fieldLink RX2 18 "NotInTheCoin$ShortList" "classOf" "[I") (by decide +kernel)
  have hfX2_isBarred_b2 : ∀  (n : Nat) (a1 : Int32) (a2 : Int32) (a3 : Int32) (h : fX2_isBarred_b2  n a1 a2 a3 σ = some r), nJ p l e rmX2_isBarred s m args below meth c 0 0 (MQ below (nQi D B r σ s.heap.size) args s 0 0 (nA B s.heap.size)) D B 4 2 [(0, .ref (na B 59)), (1, .int a1), (2, .int a2), (3, .int a3)] [] σ := by
    intro  n
    induction n with
    | zero => intro a1 a2 a3 h; cases h
    | succ n ih =>
        intro a1 a2 a3 h
        rw [fX2_isBarred_b2] at h
        refine nx_iload_n C0 3 dX2_isBarred_2 rfl ?_
        refine nx_iload_n C0 1 dX2_isBarred_3 rfl ?_
        refine nx_icmp_ge (tgt := 38) C0 dX2_isBarred_4 (by decide) (fun q => ?_) (fun q => ?_)
        · have h := nift q h
          refine nx_iconst (v := 0) C0 dX2_isBarred_38 (by decide) ?_
          exact nr_z C0 hr (Or.inl rfl) dX2_isBarred_39 h
        · have h := niff q h
          refine nx_aload_n C0 0 dX2_isBarred_7 rfl ?_
          refine nx_gX2_barredOf C0 hh0 hh1 dX2_isBarred_8 ?_
          refine nx_iload_n C0 1 dX2_isBarred_11 rfl ?_
          obtain ⟨g1, h⟩ := nguard h
          refine nx_iald C0 nI_61 g1 dX2_isBarred_12 ?_
          refine nx_iload_n C0 3 dX2_isBarred_13 rfl ?_
          obtain ⟨r3, c2, h⟩ := nbind h
          refine nx_cNi (n := 2) (As := [.int (σ 61 (a1).toNatClampNeg), .int a3]) (st := []) C0 (mX5_has l D B hB (σ 61 (a1).toNatClampNeg) a3 σ c2) gX2_isBarred_X5_has_n29 (by decide +kernel) hh2 hh3 rfl rfl rfl ndX5_has ⟨Nat.le_of_ble_eq_true rfl, Nat.le_of_ble_eq_true rfl⟩ rfl (Nat.le_of_ble_eq_true rfl) rfl dX2_isBarred_14 ?_
          refine nx_if_eq (tgt := 32) C0 dX2_isBarred_17 (by decide) (fun q => ?_) (fun q => ?_)
          · have h := nift q h
            obtain ⟨v4, ev4, h⟩ := nlet h
            refine nx_iinc (v := v4) (lv' := [(3, .int v4), (0, .ref (na B 59)), (1, .int a1), (2, .int a2)]) C0 3 dX2_isBarred_32 rfl ev4 (by decide) rfl ?_
            refine nx_goto (tgt := 2) C0 dX2_isBarred_35 (by decide) ?_
            refine nx_lv (lv' := [(0, .ref (na B 59)), (1, .int a1), (2, .int a2), (3, .int v4)]) [1, 2, 3, 0] rfl ?_
            exact ih a1 a2 v4 h
          · have h := niff q h
            refine nx_aload_n C0 0 dX2_isBarred_20 rfl ?_
            refine nx_gX2_classOf C0 hh0 hh4 dX2_isBarred_21 ?_
            refine nx_iload_n C0 3 dX2_isBarred_24 rfl ?_
            obtain ⟨g5, h⟩ := nguard h
            refine nx_iald C0 nI_62 g5 dX2_isBarred_25 ?_
            refine nx_iload_n C0 2 dX2_isBarred_26 rfl ?_
            refine nx_icmp_ne (tgt := 32) C0 dX2_isBarred_27 (by decide) (fun q => ?_) (fun q => ?_)
            · have h := niff q h
              obtain ⟨v6, ev6, h⟩ := nlet h
              refine nx_iinc (v := v6) (lv' := [(3, .int v6), (0, .ref (na B 59)), (1, .int a1), (2, .int a2)]) C0 3 dX2_isBarred_32 rfl ev6 (by decide) rfl ?_
              refine nx_goto (tgt := 2) C0 dX2_isBarred_35 (by decide) ?_
              refine nx_lv (lv' := [(0, .ref (na B 59)), (1, .int a1), (2, .int a2), (3, .int v6)]) [1, 2, 3, 0] rfl ?_
              exact ih a1 a2 v6 h
            · have h := nift q h
              refine nx_iconst (v := 1) C0 dX2_isBarred_30 (by decide) ?_
              exact nr_z C0 hr (Or.inr rfl) dX2_isBarred_31 h
  refine nx_lv (lv' := [(0, .ref (na B 59)), (1, .int x1), (2, .int x2)]) [0, 1, 2] rfl ?_
  rw [fX2_isBarred] at h
  refine nx_iconst (v := 0) C0 dX2_isBarred_0 (by decide) ?_
  refine nx_istore_n (i := 3) (y := (0 : Int32)) (lv' := [(3, .int (0 : Int32)), (0, .ref (na B 59)), (1, .int x1), (2, .int x2)]) C0 dX2_isBarred_1 rfl (by decide) rfl rfl ?_
  refine nx_lv (lv' := [(0, .ref (na B 59)), (1, .int x1), (2, .int x2), (3, .int (0 : Int32))]) [1, 2, 3, 0] rfl ?_
  exact hfX2_isBarred_b2 4096 x1 x2 (0 : Int32) h
