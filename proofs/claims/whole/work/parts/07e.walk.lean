def rmX5_gain : Room := { frames := 2, cells := 0, slots := 0, locals := 50 }
theorem ndX5_gain : yX5_gain.cls = RX5 ∧ yX5_gain.cls ≠ "java/lang/invoke/MethodHandle" ∧ yX5_gain.cls ≠ "java/lang/invoke/VarHandle" ∧ (parseMethodDescriptor yX5_gain.desc).map (fun d => d.parameters.length) = some 5 := by decide +kernel
set_option maxRecDepth 100000 in
set_option maxHeartbeats 4000000 in
theorem mX5_gain (l : Launch) (D : va_G) (B : nBT) (hB : nInj B) (x1 : Int32) (x2 : Int32) (x3 : Int32) (x4 : Int32) (x5 : Int32) (σ : nS) {r : Int32}  (h : fX5_gain x1 x2 x3 x4 x5 σ = some r) : nMi l D B yX5_gain wsX5_gain rmX5_gain [.ref (na B 0), .int x1, .int x2, .int x3, .int x4, .int x5] σ r σ := by
  refine nmet (cc := cX5_gain) (maxL := 8) (ret := (some .int)) (own := RX5) (av := [.ref (na B 0), .int x1, .int x2, .int x3, .int x4, .int x5]) (nQi D B r σ) hB (by decide) rfl rfl (Nat.le_of_ble_eq_true rfl) (fun p e s m args below meth c C0 hr => ?_)
  have hh0 : ∀ w ∈ wsX50, w ∈ wsX5_gain := by decide +kernel
  have hh1 := C0.2.2.2.2.1 (Cond.fieldLink RX5 10 "NotInTheCoin" "now" "LNotInTheCoin$Town;") (by decide +kernel)
  have hfX5_gain_b27 : ∀  (a1 : Int32) (a3 : Int32) (a4 : Int32) (a5 : Int32) (a6 : Int32) (h : fX5_gain_b27  a1 a3 a4 a5 a6 σ = some r), nJ p l e rmX5_gain s m args below meth c 0 0 (MQ below (nQi D B r σ s.heap.size) args s 0 0 (nA B s.heap.size)) D B 8 27 [(0, .ref (na B 0)), (1, .int a1), (3, .int a3), (4, .int a4), (5, .int a5), (6, .int a6)] [] σ := by
    intro  a1 a3 a4 a5 a6 h
    rw [fX5_gain_b27] at h
    refine nx_iload C0 4 dX5_gain_27 rfl ?_
    refine nx_iconst (v := 1) C0 dX5_gain_29 (by decide) ?_
    refine nx_icmp_ne (tgt := 64) C0 dX5_gain_30 (by decide) (fun q => ?_) (fun q => ?_)
    · have h := niff q h
      refine nx_iload C0 5 dX5_gain_64 rfl ?_
      exact nr_i C0 hr dX5_gain_66 h
    · have h := nift q h
      refine nx_aload_n C0 0 dX5_gain_33 rfl ?_
      refine nx_gX5_now C0 hh0 hh1 dX5_gain_34 ?_
      refine nx_iload_n C0 1 dX5_gain_37 rfl ?_
      refine nx_iload_n C0 2 dX5_gain_38 rfl ?_
      obtain ⟨r2, c1, h⟩ := nbind h
      refine nx_cVi (ci := 4) (n := 2) (As := [.int a1, .int a3]) (st := []) C0 (mX4_worthTo l D B hB nT1 a1 a3 σ c1) gX5_gain_X4_worthTo rfl rfl rfl ndX4_worthTo ⟨Nat.le_of_ble_eq_true rfl, Nat.le_of_ble_eq_true rfl⟩ (by have := nT_lt nT1; omega) (nT_e nT1 _) rfl rfl rfl (Nat.le_of_ble_eq_true rfl) rfl dX5_gain_39 ?_
      refine nx_istore (i := 7) (y := r2) (lv' := [(7, .int r2), (0, .ref (na B 0)), (1, .int a1), (3, .int a3), (4, .int a4), (5, .int a5), (6, .int a6)]) C0 dX5_gain_42 (by decide) rfl rfl ?_
      refine nx_iload C0 6 dX5_gain_44 rfl ?_
      refine nx_iload C0 4 dX5_gain_46 rfl ?_
      refine nx_iconst (v := 1) C0 dX5_gain_48 (by decide) ?_
      refine nx_icmp_ne (tgt := 59) C0 dX5_gain_49 (by decide) (fun q => ?_) (fun q => ?_)
      · have h := niff q h
        refine nx_iload C0 0 dX5_gain_59 rfl ?_
        refine nx_iadd C0 dX5_gain_61 ?_
        obtain ⟨v3, ev3, h⟩ := nlet h
        refine nx_istore (i := 6) (y := v3) (lv' := [(6, .int v3), (7, .int r2), (0, .ref (na B 0)), (1, .int a1), (3, .int a3), (4, .int a4), (5, .int a5)]) C0 dX5_gain_62 (by decide) ev3 rfl ?_
        refine nx_iload C0 0 dX5_gain_64 rfl ?_
        exact nr_i C0 hr dX5_gain_66 h
      · have h := nift q h
        refine nx_iload C0 0 dX5_gain_52 rfl ?_
        refine nx_iconst (v := 2) C0 dX5_gain_54 (by decide) ?_
        refine nx_idiv C0 dX5_gain_55 (by decide) ?_
        refine nx_goto (tgt := 61) C0 dX5_gain_56 (by decide) ?_
        refine nx_iadd C0 dX5_gain_61 ?_
        obtain ⟨v4, ev4, h⟩ := nlet h
        refine nx_istore (i := 6) (y := v4) (lv' := [(6, .int v4), (7, .int r2), (0, .ref (na B 0)), (1, .int a1), (3, .int a3), (4, .int a4), (5, .int a5)]) C0 dX5_gain_62 (by decide) ev4 rfl ?_
        refine nx_iload C0 0 dX5_gain_64 rfl ?_
        exact nr_i C0 hr dX5_gain_66 h
  refine nx_lv (lv' := [(0, .ref (na B 0)), (1, .int x1), (2, .int x2), (3, .int x3), (4, .int x4), (5, .int x5)]) [0, 1, 2, 3, 4, 5] rfl ?_
  rw [fX5_gain] at h
  refine nx_iconst (v := 0) C0 dX5_gain_0 (by decide) ?_
  refine nx_istore (i := 6) (y := (0 : Int32)) (lv' := [(6, .int (0 : Int32)), (0, .ref (na B 0)), (1, .int x1), (2, .int x2), (3, .int x3), (4, .int x4), (5, .int x5)]) C0 dX5_gain_1 (by decide) rfl rfl ?_
  refine nx_iload C0 5 dX5_gain_3 rfl ?_
  refine nx_iconst (v := 1) C0 dX5_gain_5 (by decide) ?_
  refine nx_icmp_ne (tgt := 27) C0 dX5_gain_6 (by decide) (fun q => ?_) (fun q => ?_)
  · have h := niff q h
    refine nx_lv (lv' := [(0, .ref (na B 0)), (1, .int x1), (3, .int x3), (4, .int x4), (5, .int x5), (6, .int (0 : Int32))]) [1, 2, 4, 5, 6, 0] rfl ?_
    exact hfX5_gain_b27 x1 x3 x4 x5 (0 : Int32) h
  · have h := nift q h
    refine nx_iload C0 0 dX5_gain_9 rfl ?_
    refine nx_iconst (v := 3) C0 dX5_gain_11 (by decide) ?_
    refine nx_aload_n C0 1 dX5_gain_12 rfl ?_
    refine nx_gX5_now C0 hh0 hh1 dX5_gain_13 ?_
    refine nx_iload_n C0 2 dX5_gain_16 rfl ?_
    refine nx_iload_n C0 3 dX5_gain_17 rfl ?_
    obtain ⟨r6, c5, h⟩ := nbind h
    refine nx_cVi (ci := 4) (n := 2) (As := [.int x1, .int x2]) (st := [.int (3 : Int32), .int (0 : Int32)]) C0 (mX4_worthTo l D B hB nT1 x1 x2 σ c5) gX5_gain_X4_worthTo rfl rfl rfl ndX4_worthTo ⟨Nat.le_of_ble_eq_true rfl, Nat.le_of_ble_eq_true rfl⟩ (by have := nT_lt nT1; omega) (nT_e nT1 _) rfl rfl rfl (Nat.le_of_ble_eq_true rfl) rfl dX5_gain_18 ?_
    refine nx_iconst (v := 2) C0 dX5_gain_21 (by decide) ?_
    refine nx_idiv C0 dX5_gain_22 (by decide) ?_
    refine nx_isub C0 dX5_gain_23 ?_
    refine nx_iadd C0 dX5_gain_24 ?_
    obtain ⟨v7, ev7, h⟩ := nlet h
    refine nx_istore (i := 6) (y := v7) (lv' := [(6, .int v7), (0, .ref (na B 0)), (1, .int x1), (2, .int x2), (3, .int x3), (4, .int x4), (5, .int x5)]) C0 dX5_gain_25 (by decide) ev7 rfl ?_
    refine nx_lv (lv' := [(0, .ref (na B 0)), (1, .int x1), (3, .int x3), (4, .int x4), (5, .int x5), (6, .int v7)]) [1, 2, 4, 5, 6, 0] rfl ?_
    exact hfX5_gain_b27 x1 x3 x4 x5 v7 h
def rmX5_isContent : Room := { frames := 3, cells := 0, slots := 0, locals := 77 }
theorem ndX5_isContent : yX5_isContent.cls = RX5 ∧ yX5_isContent.cls ≠ "java/lang/invoke/MethodHandle" ∧ yX5_isContent.cls ≠ "java/lang/invoke/VarHandle" ∧ (parseMethodDescriptor yX5_isContent.desc).map (fun d => d.parameters.length) = some 5 := by decide +kernel
set_option maxRecDepth 100000 in
set_option maxHeartbeats 4000000 in
theorem mX5_isContent (l : Launch) (D : va_G) (B : nBT) (hB : nInj B) (x1 : Int32) (x2 : Int32) (x3 : Int32) (x4 : Int32) (x5 : Int32) (σ : nS) {r : Int32}  (h : fX5_isContent x1 x2 x3 x4 x5 σ = some r) : nMi l D B yX5_isContent wsX5_isContent rmX5_isContent [.ref (na B 0), .int x1, .int x2, .int x3, .int x4, .int x5] σ r σ := by
  refine nmet (cc := cX5_isContent) (maxL := 7) (ret := (some .boolean)) (own := RX5) (av := [.ref (na B 0), .int x1, .int x2, .int x3, .int x4, .int x5]) (nQi D B r σ) hB (by decide) rfl rfl (Nat.le_of_ble_eq_true rfl) (fun p e s m args below meth c C0 hr => ?_)
  refine nx_lv (lv' := [(0, .ref (na B 0)), (1, .int x1), (2, .int x2), (3, .int x3), (4, .int x4), (5, .int x5)]) [0, 1, 2, 3, 4, 5] rfl ?_
  rw [fX5_isContent] at h
  refine nx_aload_n C0 0 dX5_isContent_0 rfl ?_
  refine nx_iload_n C0 1 dX5_isContent_1 rfl ?_
  refine nx_iload_n C0 2 dX5_isContent_2 rfl ?_
  refine nx_iload_n C0 3 dX5_isContent_3 rfl ?_
  refine nx_iload C0 4 dX5_isContent_4 rfl ?_
  refine nx_iload C0 5 dX5_isContent_6 rfl ?_
  obtain ⟨r2, c1, h⟩ := nbind h
  refine nx_cVi (ci := 5) (n := 5) (As := [.int x1, .int x2, .int x3, .int x4, .int x5]) (st := []) C0 (mX5_gain l D B hB x1 x2 x3 x4 x5 σ c1) gX5_isContent_X5_gain rfl rfl rfl ndX5_gain ⟨Nat.le_of_ble_eq_true rfl, Nat.le_of_ble_eq_true rfl⟩ (by decide) rfl rfl rfl rfl (Nat.le_of_ble_eq_true rfl) rfl dX5_isContent_8 ?_
  refine nx_istore (i := 6) (y := r2) (lv' := [(6, .int r2), (0, .ref (na B 0)), (1, .int x1), (2, .int x2), (3, .int x3), (4, .int x4), (5, .int x5)]) C0 dX5_isContent_11 (by decide) rfl rfl ?_
  refine nx_iload C0 0 dX5_isContent_13 rfl ?_
  refine nx_aload_n C0 1 dX5_isContent_15 rfl ?_
  refine nx_iload_n C0 2 dX5_isContent_16 rfl ?_
  refine nx_iload_n C0 3 dX5_isContent_17 rfl ?_
  refine nx_iload_n C0 4 dX5_isContent_18 rfl ?_
  refine nx_iconst (v := 1) C0 dX5_isContent_19 (by decide) ?_
  refine nx_iload C0 5 dX5_isContent_20 rfl ?_
  refine nx_isub C0 dX5_isContent_22 ?_
  refine nx_iload C0 6 dX5_isContent_23 rfl ?_
  obtain ⟨r4, c3, h⟩ := nbind h
  refine nx_cVi (ci := 5) (n := 5) (As := [.int x1, .int x2, .int x3, .int ((1 : Int32) - x4), .int x5]) (st := [.int r2]) C0 (mX5_gain l D B hB x1 x2 x3 ((1 : Int32) - x4) x5 σ c3) gX5_isContent_X5_gain rfl rfl rfl ndX5_gain ⟨Nat.le_of_ble_eq_true rfl, Nat.le_of_ble_eq_true rfl⟩ (by decide) rfl rfl rfl rfl (Nat.le_of_ble_eq_true rfl) rfl dX5_isContent_25 ?_
  refine nx_icmp_lt (tgt := 35) C0 dX5_isContent_28 (by decide) (fun q => ?_) (fun q => ?_)
  · have h := nift q h
    refine nx_iconst (v := 0) C0 dX5_isContent_35 (by decide) ?_
    exact nr_z C0 hr (Or.inl rfl) dX5_isContent_36 h
  · have h := niff q h
    refine nx_iconst (v := 1) C0 dX5_isContent_31 (by decide) ?_
    refine nx_goto (tgt := 36) C0 dX5_isContent_32 (by decide) ?_
    exact nr_z C0 hr (Or.inr rfl) dX5_isContent_36 h
def rmX5_two : Room := { frames := 4, cells := 0, slots := 0, locals := 103 }
theorem ndX5_two : yX5_two.cls = RX5 ∧ yX5_two.cls ≠ "java/lang/invoke/MethodHandle" ∧ yX5_two.cls ≠ "java/lang/invoke/VarHandle" ∧ (parseMethodDescriptor yX5_two.desc).map (fun d => d.parameters.length) = some 2 := by decide +kernel
set_option maxRecDepth 100000 in
set_option maxHeartbeats 4000000 in
theorem mX5_two (l : Launch) (D : va_G) (B : nBT) (hB : nInj B) (x1 : Int32) (x2 : Int32) (σ : nS) {r : Int32}  (h : fX5_two x1 x2 σ = some r) : nMi l D B yX5_two wsX5_two rmX5_two [.ref (na B 0), .int x1, .int x2] σ r σ := by
  refine nmet (cc := cX5_two) (maxL := 7) (ret := (some .int)) (own := RX5) (av := [.ref (na B 0), .int x1, .int x2]) (nQi D B r σ) hB (by decide) rfl rfl (Nat.le_of_ble_eq_true rfl) (fun p e s m args below meth c C0 hr => ?_)
  have hh0 : ∀ w ∈ wsX50, w ∈ wsX5_two := by decide +kernel
  have hh1 := C0.2.2.2.2.1 (Cond.fieldLink RX5 10 "NotInTheCoin" "now" "LNotInTheCoin$Town;") (by decide +kernel)
  have hfX5_two_b90 : ∀ (s81 : Int32 → Int32 → Int32 → Int32 → Int32 → nS → Option Int32) (hs81 : ∀ (a1 : Int32) (a2 : Int32) (a3 : Int32) (a4 : Int32) (a5 : Int32), s81 a1 a2 a3 a4 a5 σ = some r → nJ p l e rmX5_two s m args below meth c 0 0 (MQ below (nQi D B r σ s.heap.size) args s 0 0 (nA B s.heap.size)) D B 7 81 [(0, .ref (na B 0)), (1, .int a1), (2, .int a2), (3, .int a3), (4, .int a4), (5, .int a5)] [] σ) (n : Nat) (a1 : Int32) (a2 : Int32) (a3 : Int32) (a4 : Int32) (a5 : Int32) (a6 : Int32) (h : fX5_two_b90 s81 n a1 a2 a3 a4 a5 a6 σ = some r), nJ p l e rmX5_two s m args below meth c 0 0 (MQ below (nQi D B r σ s.heap.size) args s 0 0 (nA B s.heap.size)) D B 7 90 [(0, .ref (na B 0)), (1, .int a1), (2, .int a2), (3, .int a3), (4, .int a4), (5, .int a5), (6, .int a6)] [] σ := by
    intro s81 hs81 n
    induction n with
    | zero => intro a1 a2 a3 a4 a5 a6 h; cases h
    | succ n ih =>
        intro a1 a2 a3 a4 a5 a6 h
        rw [fX5_two_b90] at h
        refine nx_iload C0 6 dX5_two_90 rfl ?_
        refine nx_iconst (v := 1) C0 dX5_two_92 (by decide) ?_
        refine nx_icmp_gt (tgt := 141) C0 dX5_two_93 (by decide) (fun q => ?_) (fun q => ?_)
        · have h := nift q h
          obtain ⟨v1, ev1, h⟩ := nlet h
          refine nx_iinc (v := v1) (lv' := [(5, .int v1), (0, .ref (na B 0)), (1, .int a1), (2, .int a2), (3, .int a3), (4, .int a4), (6, .int a6)]) C0 5 dX5_two_141 rfl ev1 (by decide) rfl ?_
          refine nx_goto (tgt := 81) C0 dX5_two_144 (by decide) ?_
          refine nx_lv (lv' := [(0, .ref (na B 0)), (1, .int a1), (2, .int a2), (3, .int a3), (4, .int a4), (5, .int v1)]) [1, 2, 3, 4, 5, 0] rfl ?_
          exact hs81 a1 a2 a3 a4 v1 h
        · have h := niff q h
          refine nx_aload_n C0 0 dX5_two_96 rfl ?_
          refine nx_iload_n C0 1 dX5_two_97 rfl ?_
          refine nx_iload_n C0 3 dX5_two_98 rfl ?_
          refine nx_iload C0 4 dX5_two_99 rfl ?_
          refine nx_iload C0 5 dX5_two_101 rfl ?_
          refine nx_iload C0 6 dX5_two_103 rfl ?_
          obtain ⟨r3, c2, h⟩ := nbind h
          refine nx_cVi (ci := 5) (n := 5) (As := [.int a1, .int a3, .int a4, .int a5, .int a6]) (st := []) C0 (mX5_isContent l D B hB a1 a3 a4 a5 a6 σ c2) gX5_two_X5_isContent rfl rfl rfl ndX5_isContent ⟨Nat.le_of_ble_eq_true rfl, Nat.le_of_ble_eq_true rfl⟩ (by decide) rfl rfl rfl rfl (Nat.le_of_ble_eq_true rfl) rfl dX5_two_105 ?_
          refine nx_if_eq (tgt := 135) C0 dX5_two_108 (by decide) (fun q => ?_) (fun q => ?_)
          · have h := nift q h
            obtain ⟨v4, ev4, h⟩ := nlet h
            refine nx_iinc (v := v4) (lv' := [(6, .int v4), (0, .ref (na B 0)), (1, .int a1), (2, .int a2), (3, .int a3), (4, .int a4), (5, .int a5)]) C0 6 dX5_two_135 rfl ev4 (by decide) rfl ?_
            refine nx_goto (tgt := 90) C0 dX5_two_138 (by decide) ?_
            refine nx_lv (lv' := [(0, .ref (na B 0)), (1, .int a1), (2, .int a2), (3, .int a3), (4, .int a4), (5, .int a5), (6, .int v4)]) [1, 2, 3, 4, 5, 6, 0] rfl ?_
            exact ih a1 a2 a3 a4 a5 v4 h
          · have h := niff q h
            refine nx_aload_n C0 0 dX5_two_111 rfl ?_
            refine nx_iload_n C0 2 dX5_two_112 rfl ?_
            refine nx_iload C0 4 dX5_two_113 rfl ?_
            refine nx_iload_n C0 3 dX5_two_115 rfl ?_
            refine nx_iload C0 6 dX5_two_116 rfl ?_
            refine nx_iload C0 5 dX5_two_118 rfl ?_
            obtain ⟨r6, c5, h⟩ := nbind h
            refine nx_cVi (ci := 5) (n := 5) (As := [.int a2, .int a4, .int a3, .int a6, .int a5]) (st := []) C0 (mX5_isContent l D B hB a2 a4 a3 a6 a5 σ c5) gX5_two_X5_isContent rfl rfl rfl ndX5_isContent ⟨Nat.le_of_ble_eq_true rfl, Nat.le_of_ble_eq_true rfl⟩ (by decide) rfl rfl rfl rfl (Nat.le_of_ble_eq_true rfl) rfl dX5_two_120 ?_
            refine nx_if_eq (tgt := 135) C0 dX5_two_123 (by decide) (fun q => ?_) (fun q => ?_)
            · have h := nift q h
              obtain ⟨v7, ev7, h⟩ := nlet h
              refine nx_iinc (v := v7) (lv' := [(6, .int v7), (0, .ref (na B 0)), (1, .int a1), (2, .int a2), (3, .int a3), (4, .int a4), (5, .int a5)]) C0 6 dX5_two_135 rfl ev7 (by decide) rfl ?_
              refine nx_goto (tgt := 90) C0 dX5_two_138 (by decide) ?_
              refine nx_lv (lv' := [(0, .ref (na B 0)), (1, .int a1), (2, .int a2), (3, .int a3), (4, .int a4), (5, .int a5), (6, .int v7)]) [1, 2, 3, 4, 5, 6, 0] rfl ?_
              exact ih a1 a2 a3 a4 a5 v7 h
            · have h := niff q h
              refine nx_bipush (v := 10) C0 dX5_two_126 (by decide) ?_
              refine nx_iload C0 5 dX5_two_128 rfl ?_
              refine nx_imul C0 dX5_two_130 ?_
              refine nx_iload C0 6 dX5_two_131 rfl ?_
              refine nx_iadd C0 dX5_two_133 ?_
              exact nr_i C0 hr dX5_two_134 h
  have hfX5_two_b81 : ∀  (n : Nat) (a1 : Int32) (a2 : Int32) (a3 : Int32) (a4 : Int32) (a5 : Int32) (h : fX5_two_b81  n a1 a2 a3 a4 a5 σ = some r), nJ p l e rmX5_two s m args below meth c 0 0 (MQ below (nQi D B r σ s.heap.size) args s 0 0 (nA B s.heap.size)) D B 7 81 [(0, .ref (na B 0)), (1, .int a1), (2, .int a2), (3, .int a3), (4, .int a4), (5, .int a5)] [] σ := by
    intro  n
    induction n with
    | zero => intro a1 a2 a3 a4 a5 h; cases h
    | succ n ih =>
        intro a1 a2 a3 a4 a5 h
        rw [fX5_two_b81] at h
        refine nx_iload C0 5 dX5_two_81 rfl ?_
        refine nx_iconst (v := 1) C0 dX5_two_83 (by decide) ?_
        refine nx_icmp_gt (tgt := 147) C0 dX5_two_84 (by decide) (fun q => ?_) (fun q => ?_)
        · have h := nift q h
          refine nx_bipush (v := -4) C0 dX5_two_147 (by decide) ?_
          exact nr_i C0 hr dX5_two_149 h
        · have h := niff q h
          refine nx_iconst (v := 0) C0 dX5_two_87 (by decide) ?_
          refine nx_istore (i := 6) (y := (0 : Int32)) (lv' := [(6, .int (0 : Int32)), (0, .ref (na B 0)), (1, .int a1), (2, .int a2), (3, .int a3), (4, .int a4), (5, .int a5)]) C0 dX5_two_88 (by decide) rfl rfl ?_
          refine nx_lv (lv' := [(0, .ref (na B 0)), (1, .int a1), (2, .int a2), (3, .int a3), (4, .int a4), (5, .int a5), (6, .int (0 : Int32))]) [1, 2, 3, 4, 5, 6, 0] rfl ?_
          exact hfX5_two_b90 (fX5_two_b81 n) ih 4096 a1 a2 a3 a4 a5 (0 : Int32) h
  refine nx_lv (lv' := [(0, .ref (na B 0)), (1, .int x1), (2, .int x2)]) [0, 1, 2] rfl ?_
  rw [fX5_two] at h
  refine nx_aload_n C0 0 dX5_two_0 rfl ?_
  refine nx_gX5_now C0 hh0 hh1 dX5_two_1 ?_
  refine nx_iload_n C0 1 dX5_two_4 rfl ?_
  obtain ⟨r9, c8, h⟩ := nbind h
  refine nx_cVi (ci := 4) (n := 1) (As := [.int x1]) (st := []) C0 (mX4_isPerson l D B hB nT1 x1 σ c8) gX5_two_X4_isPerson rfl rfl rfl ndX4_isPerson ⟨Nat.le_of_ble_eq_true rfl, Nat.le_of_ble_eq_true rfl⟩ (by have := nT_lt nT1; omega) (nT_e nT1 _) rfl rfl rfl (Nat.le_of_ble_eq_true rfl) rfl dX5_two_5 ?_
  refine nx_if_eq (tgt := 27) C0 dX5_two_8 (by decide) (fun q => ?_) (fun q => ?_)
  · have h := nift q h
    refine nx_iconst (v := -1) C0 dX5_two_27 (by decide) ?_
    exact nr_i C0 hr dX5_two_28 h
  · have h := niff q h
    refine nx_aload_n C0 0 dX5_two_11 rfl ?_
    refine nx_gX5_now C0 hh0 hh1 dX5_two_12 ?_
    refine nx_iload_n C0 2 dX5_two_15 rfl ?_
    obtain ⟨r11, c10, h⟩ := nbind h
    refine nx_cVi (ci := 4) (n := 1) (As := [.int x2]) (st := []) C0 (mX4_isPerson l D B hB nT1 x2 σ c10) gX5_two_X4_isPerson rfl rfl rfl ndX4_isPerson ⟨Nat.le_of_ble_eq_true rfl, Nat.le_of_ble_eq_true rfl⟩ (by have := nT_lt nT1; omega) (nT_e nT1 _) rfl rfl rfl (Nat.le_of_ble_eq_true rfl) rfl dX5_two_16 ?_
    refine nx_if_eq (tgt := 27) C0 dX5_two_19 (by decide) (fun q => ?_) (fun q => ?_)
    · have h := nift q h
      refine nx_iconst (v := -1) C0 dX5_two_27 (by decide) ?_
      exact nr_i C0 hr dX5_two_28 h
    · have h := niff q h
      refine nx_iload_n C0 1 dX5_two_22 rfl ?_
      refine nx_iload_n C0 2 dX5_two_23 rfl ?_
      refine nx_icmp_ne (tgt := 29) C0 dX5_two_24 (by decide) (fun q => ?_) (fun q => ?_)
      · have h := niff q h
        refine nx_aload_n C0 0 dX5_two_29 rfl ?_
        refine nx_gX5_now C0 hh0 hh1 dX5_two_30 ?_
        refine nx_iload_n C0 1 dX5_two_33 rfl ?_
        refine nx_aload_n C0 0 dX5_two_34 rfl ?_
        refine nx_gX5_now C0 hh0 hh1 dX5_two_35 ?_
        refine nx_iload_n C0 1 dX5_two_38 rfl ?_
        obtain ⟨r13, c12, h⟩ := nbind h
        refine nx_cVi (ci := 4) (n := 1) (As := [.int x1]) (st := [.int x1, .ref (na B 1)]) C0 (mX4_goodsHad l D B hB nT1 x1 σ c12) gX5_two_X4_goodsHad rfl rfl rfl ndX4_goodsHad ⟨Nat.le_of_ble_eq_true rfl, Nat.le_of_ble_eq_true rfl⟩ (by have := nT_lt nT1; omega) (nT_e nT1 _) rfl rfl rfl (Nat.le_of_ble_eq_true rfl) rfl dX5_two_39 ?_
        refine nx_iconst (v := -1) C0 dX5_two_42 (by decide) ?_
        obtain ⟨r15, c14, h⟩ := nbind h
        refine nx_cVi (ci := 4) (n := 3) (As := [.int x1, .int r13, .int (-1 : Int32)]) (st := []) C0 (mX4_choice l D B hB nT1 x1 r13 (-1 : Int32) σ c14) gX5_two_X4_choice rfl rfl rfl ndX4_choice ⟨Nat.le_of_ble_eq_true rfl, Nat.le_of_ble_eq_true rfl⟩ (by have := nT_lt nT1; omega) (nT_e nT1 _) rfl rfl rfl (Nat.le_of_ble_eq_true rfl) rfl dX5_two_43 ?_
        refine nx_istore_n (i := 3) (y := r15) (lv' := [(3, .int r15), (0, .ref (na B 0)), (1, .int x1), (2, .int x2)]) C0 dX5_two_46 rfl (by decide) rfl rfl ?_
        refine nx_aload_n C0 1 dX5_two_47 rfl ?_
        refine nx_gX5_now C0 hh0 hh1 dX5_two_48 ?_
        refine nx_iload_n C0 3 dX5_two_51 rfl ?_
        refine nx_aload_n C0 1 dX5_two_52 rfl ?_
        refine nx_gX5_now C0 hh0 hh1 dX5_two_53 ?_
        refine nx_iload_n C0 3 dX5_two_56 rfl ?_
        obtain ⟨r17, c16, h⟩ := nbind h
        refine nx_cVi (ci := 4) (n := 1) (As := [.int x2]) (st := [.int x2, .ref (na B 1)]) C0 (mX4_goodsHad l D B hB nT1 x2 σ c16) gX5_two_X4_goodsHad rfl rfl rfl ndX4_goodsHad ⟨Nat.le_of_ble_eq_true rfl, Nat.le_of_ble_eq_true rfl⟩ (by have := nT_lt nT1; omega) (nT_e nT1 _) rfl rfl rfl (Nat.le_of_ble_eq_true rfl) rfl dX5_two_57 ?_
        refine nx_iconst (v := -1) C0 dX5_two_60 (by decide) ?_
        obtain ⟨r19, c18, h⟩ := nbind h
        refine nx_cVi (ci := 4) (n := 3) (As := [.int x2, .int r17, .int (-1 : Int32)]) (st := []) C0 (mX4_choice l D B hB nT1 x2 r17 (-1 : Int32) σ c18) gX5_two_X4_choice rfl rfl rfl ndX4_choice ⟨Nat.le_of_ble_eq_true rfl, Nat.le_of_ble_eq_true rfl⟩ (by have := nT_lt nT1; omega) (nT_e nT1 _) rfl rfl rfl (Nat.le_of_ble_eq_true rfl) rfl dX5_two_61 ?_
        refine nx_istore (i := 4) (y := r19) (lv' := [(4, .int r19), (3, .int r15), (0, .ref (na B 0)), (1, .int x1), (2, .int x2)]) C0 dX5_two_64 (by decide) rfl rfl ?_
        refine nx_iload_n C0 1 dX5_two_66 rfl ?_
        refine nx_if_lt (tgt := 75) C0 dX5_two_67 (by decide) (fun q => ?_) (fun q => ?_)
        · have h := nift q h
          refine nx_bipush (v := -3) C0 dX5_two_75 (by decide) ?_
          exact nr_i C0 hr dX5_two_77 h
        · have h := niff q h
          refine nx_iload C0 0 dX5_two_70 rfl ?_
          refine nx_if_ge (tgt := 78) C0 dX5_two_72 (by decide) (fun q => ?_) (fun q => ?_)
          · have h := nift q h
            refine nx_iconst (v := 0) C0 dX5_two_78 (by decide) ?_
            refine nx_istore (i := 5) (y := (0 : Int32)) (lv' := [(5, .int (0 : Int32)), (4, .int r19), (3, .int r15), (0, .ref (na B 0)), (1, .int x1), (2, .int x2)]) C0 dX5_two_79 (by decide) rfl rfl ?_
            refine nx_lv (lv' := [(0, .ref (na B 0)), (1, .int x1), (2, .int x2), (3, .int r15), (4, .int r19), (5, .int (0 : Int32))]) [3, 4, 5, 2, 1, 0] rfl ?_
            exact hfX5_two_b81 4096 x1 x2 r15 r19 (0 : Int32) h
          · have h := niff q h
            refine nx_bipush (v := -3) C0 dX5_two_75 (by decide) ?_
            exact nr_i C0 hr dX5_two_77 h
      · have h := nift q h
        refine nx_iconst (v := -1) C0 dX5_two_27 (by decide) ?_
        exact nr_i C0 hr dX5_two_28 h
def rmX5_greatestDivisor : Room := { frames := 0, cells := 0, slots := 0, locals := 0 }
theorem ndX5_greatestDivisor : yX5_greatestDivisor.cls ≠ "java/lang/invoke/MethodHandle" ∧ yX5_greatestDivisor.cls ≠ "java/lang/invoke/VarHandle" ∧ (parseMethodDescriptor yX5_greatestDivisor.desc).map (fun d => d.parameters.length) = some 2 := by decide +kernel
set_option maxRecDepth 100000 in
set_option maxHeartbeats 4000000 in
theorem mX5_greatestDivisor (l : Launch) (D : va_G) (B : nBT) (hB : nInj B) (x0 : Int64) (x1 : Int64) (σ : nS) {r : Int64}  (h : fX5_greatestDivisor x0 x1 σ = some r) : nMl l D B yX5_greatestDivisor wsX5_greatestDivisor rmX5_greatestDivisor [.long x0, .long x1] σ r σ := by
  refine nmet (cc := cX5_greatestDivisor) (maxL := 11) (ret := (some .long)) (own := RX5) (av := [.long x0, .long x1]) (nQl D B r σ) hB (by decide) rfl rfl (Nat.le_of_ble_eq_true rfl) (fun p e s m args below meth c C0 hr => ?_)
  have hfX5_greatestDivisor_b9 : ∀  (n : Nat) (a4 : Int64) (a6 : Int64) (a8 : Int32) (h : fX5_greatestDivisor_b9  n a4 a6 a8 σ = some r), nJ p l e rmX5_greatestDivisor s m args below meth c 0 0 (MQ below (nQl D B r σ s.heap.size) args s 0 0 (nA B s.heap.size)) D B 11 9 [(4, .long a4), (6, .long a6), (8, .int a8)] [] σ := by
    intro  n
    induction n with
    | zero => intro a4 a6 a8 h; cases h
    | succ n ih =>
        intro a4 a6 a8 h
        rw [fX5_greatestDivisor_b9] at h
        refine nx_iload C0 2 dX5_greatestDivisor_9 rfl ?_
        refine nx_sipush (v := 200) C0 dX5_greatestDivisor_11 (by decide) ?_
        refine nx_icmp_ge (tgt := 45) C0 dX5_greatestDivisor_14 (by decide) (fun q => ?_) (fun q => ?_)
        · have h := nift q h
          refine nx_lload C0 0 dX5_greatestDivisor_45 rfl ?_
          exact nr_l C0 hr dX5_greatestDivisor_47 h
        · have h := niff q h
          refine nx_lload C0 1 dX5_greatestDivisor_17 rfl ?_
          refine nx_lconst (v := 0) C0 dX5_greatestDivisor_19 (by decide) ?_
          refine nx_lcmp C0 dX5_greatestDivisor_20 ?_
          refine nx_if_eq (tgt := 45) C0 dX5_greatestDivisor_21 (by decide) (fun q => ?_) (fun q => ?_)
          · have h := nift q h
            refine nx_lload C0 0 dX5_greatestDivisor_45 rfl ?_
            exact nr_l C0 hr dX5_greatestDivisor_47 h
          · have h := niff q h
            refine nx_lload C0 0 dX5_greatestDivisor_24 rfl ?_
            refine nx_lload C0 1 dX5_greatestDivisor_26 rfl ?_
            obtain ⟨g1, h⟩ := nguard h
            refine nx_lrem C0 dX5_greatestDivisor_28 g1 ?_
            obtain ⟨v2, ev2, h⟩ := nlet h
            refine nx_lstore (i := 9) (y := v2) (lv' := [(9, .long v2), (4, .long a4), (6, .long a6), (8, .int a8)]) C0 dX5_greatestDivisor_29 (by decide) ev2 rfl ?_
            refine nx_lload C0 2 dX5_greatestDivisor_31 rfl ?_
            refine nx_lstore (i := 4) (y := a6) (lv' := [(4, .long a6), (9, .long v2), (6, .long a6), (8, .int a8)]) C0 dX5_greatestDivisor_33 (by decide) rfl rfl ?_
            refine nx_lload C0 1 dX5_greatestDivisor_35 rfl ?_
            refine nx_lstore (i := 6) (y := v2) (lv' := [(6, .long v2), (4, .long a6), (9, .long v2), (8, .int a8)]) C0 dX5_greatestDivisor_37 (by decide) rfl rfl ?_
            obtain ⟨v3, ev3, h⟩ := nlet h
            refine nx_iinc (v := v3) (lv' := [(8, .int v3), (6, .long v2), (4, .long a6), (9, .long v2)]) C0 3 dX5_greatestDivisor_39 rfl ev3 (by decide) rfl ?_
            refine nx_goto (tgt := 9) C0 dX5_greatestDivisor_42 (by decide) ?_
            refine nx_lv (lv' := [(4, .long a6), (6, .long v2), (8, .int v3)]) [2, 1, 0] rfl ?_
            exact ih a6 v2 v3 h
  refine nx_lv (lv' := [(0, .long x0), (2, .long x1)]) [0, 1] rfl ?_
  rw [fX5_greatestDivisor] at h
  refine nx_lload_n C0 0 dX5_greatestDivisor_0 rfl ?_
  refine nx_lstore (i := 4) (y := x0) (lv' := [(4, .long x0), (0, .long x0), (2, .long x1)]) C0 dX5_greatestDivisor_1 (by decide) rfl rfl ?_
  refine nx_lload_n C0 2 dX5_greatestDivisor_3 rfl ?_
  refine nx_lstore (i := 6) (y := x1) (lv' := [(6, .long x1), (4, .long x0), (0, .long x0), (2, .long x1)]) C0 dX5_greatestDivisor_4 (by decide) rfl rfl ?_
  refine nx_iconst (v := 0) C0 dX5_greatestDivisor_6 (by decide) ?_
  refine nx_istore (i := 8) (y := (0 : Int32)) (lv' := [(8, .int (0 : Int32)), (6, .long x1), (4, .long x0), (0, .long x0), (2, .long x1)]) C0 dX5_greatestDivisor_7 (by decide) rfl rfl ?_
  refine nx_lv (lv' := [(4, .long x0), (6, .long x1), (8, .int (0 : Int32))]) [2, 1, 0] rfl ?_
  exact hfX5_greatestDivisor_b9 4096 x0 x1 (0 : Int32) h
def rmX5_partOf : Room := { frames := 1, cells := 0, slots := 0, locals := 30 }
theorem ndX5_partOf : yX5_partOf.cls ≠ "java/lang/invoke/MethodHandle" ∧ yX5_partOf.cls ≠ "java/lang/invoke/VarHandle" ∧ (parseMethodDescriptor yX5_partOf.desc).map (fun d => d.parameters.length) = some 3 := by decide +kernel
set_option maxRecDepth 100000 in
set_option maxHeartbeats 4000000 in
theorem mX5_partOf (l : Launch) (D : va_G) (B : nBT) (hB : nInj B) (x0 : Int64) (x1 : Int64) (x2 : Int32) (σ : nS) {r : Int64}  (h : fX5_partOf x0 x1 x2 σ = some r) : nMl l D B yX5_partOf wsX5_partOf rmX5_partOf [.long x0, .long x1, .int x2] σ r σ := by
  refine nmet (cc := cX5_partOf) (maxL := 7) (ret := (some .long)) (own := RX5) (av := [.long x0, .long x1, .int x2]) (nQl D B r σ) hB (by decide) rfl rfl (Nat.le_of_ble_eq_true rfl) (fun p e s m args below meth c C0 hr => ?_)
  refine nx_lv (lv' := [(0, .long x0), (2, .long x1), (4, .int x2)]) [0, 1, 2] rfl ?_
  rw [fX5_partOf] at h
  refine nx_lload_n C0 0 dX5_partOf_0 rfl ?_
  refine nx_lload_n C0 1 dX5_partOf_1 rfl ?_
  obtain ⟨r2, c1, h⟩ := nbind h
  refine nx_cSl (n := 2) (As := [.long x0, .long x1]) (st := []) C0 (mX5_greatestDivisor l D B hB x0 x1 σ c1) gX5_partOf_X5_greatestDivisor rfl rfl rfl ndX5_greatestDivisor ⟨Nat.le_of_ble_eq_true rfl, Nat.le_of_ble_eq_true rfl⟩ rfl (Nat.le_of_ble_eq_true rfl) rfl dX5_partOf_2 ?_
  refine nx_lstore (i := 5) (y := r2) (lv' := [(5, .long r2), (0, .long x0), (2, .long x1), (4, .int x2)]) C0 dX5_partOf_5 (by decide) rfl rfl ?_
  refine nx_lload C0 0 dX5_partOf_7 rfl ?_
  refine nx_lconst (v := 0) C0 dX5_partOf_9 (by decide) ?_
  refine nx_lcmp C0 dX5_partOf_10 ?_
  refine nx_if_gt (tgt := 16) C0 dX5_partOf_11 (by decide) (fun q => ?_) (fun q => ?_)
  · have h := nift q h
    refine nx_iload C0 3 dX5_partOf_16 rfl ?_
    refine nx_if_ne (tgt := 25) C0 dX5_partOf_18 (by decide) (fun q => ?_) (fun q => ?_)
    · have h := niff q h
      refine nx_lload_n C0 2 dX5_partOf_25 rfl ?_
      refine nx_lload C0 0 dX5_partOf_26 rfl ?_
      obtain ⟨g3, h⟩ := nguard h
      refine nx_ldiv C0 dX5_partOf_28 g3 ?_
      exact nr_l C0 hr dX5_partOf_29 h
    · have h := nift q h
      refine nx_lload_n C0 1 dX5_partOf_21 rfl ?_
      refine nx_goto (tgt := 26) C0 dX5_partOf_22 (by decide) ?_
      refine nx_lload C0 0 dX5_partOf_26 rfl ?_
      obtain ⟨g4, h⟩ := nguard h
      refine nx_ldiv C0 dX5_partOf_28 g4 ?_
      exact nr_l C0 hr dX5_partOf_29 h
  · have h := niff q h
    refine nx_lconst (v := 0) C0 dX5_partOf_14 (by decide) ?_
    exact nr_l C0 hr dX5_partOf_15 h
def rmX5_market : Room := { frames := 2, cells := 0, slots := 0, locals := 56 }
theorem ndX5_market : yX5_market.cls = RX5 ∧ yX5_market.cls ≠ "java/lang/invoke/MethodHandle" ∧ yX5_market.cls ≠ "java/lang/invoke/VarHandle" ∧ (parseMethodDescriptor yX5_market.desc).map (fun d => d.parameters.length) = some 4 := by decide +kernel
set_option maxRecDepth 100000 in
set_option maxHeartbeats 4000000 in
theorem mX5_market (l : Launch) (D : va_G) (B : nBT) (hB : nInj B) (x1 : Int32) (x2 : Int32) (x3 : Int32) (x4 : Int32) (σ : nS) {r : Int64}  (h : fX5_market x1 x2 x3 x4 σ = some r) : nMl l D B yX5_market wsX5_market rmX5_market [.ref (na B 0), .int x1, .int x2, .int x3, .int x4] σ r σ := by
  refine nmet (cc := cX5_market) (maxL := 11) (ret := (some .long)) (own := RX5) (av := [.ref (na B 0), .int x1, .int x2, .int x3, .int x4]) (nQl D B r σ) hB (by decide) rfl rfl (Nat.le_of_ble_eq_true rfl) (fun p e s m args below meth c C0 hr => ?_)
  have hh0 : ∀ w ∈ wsX50, w ∈ wsX5_market := by decide +kernel
  have hh1 := C0.2.2.2.2.1 (Cond.fieldLink RX5 10 "NotInTheCoin" "now" "LNotInTheCoin$Town;") (by decide +kernel)
  have hh2 : ∀ w ∈ wsX40, w ∈ wsX5_market := by decide +kernel
  have hh3 := C0.2.2.2.2.1 (Cond.fieldLink RX5 185 "NotInTheCoin$Town" "people" "I") (by decide +kernel)
  have hh4 := C0.2.2.2.2.1 (Cond.constantLong RX5 245 (1000000001)) (by decide +kernel)
  have hfX5_market_b68 : ∀  (n : Nat) (a1 : Int32) (a3 : Int32) (a4 : Int32) (a5 : Int32) (a6 : Int64) (a8 : Int64) (a10 : Int32) (h : fX5_market_b68  n a1 a3 a4 a5 a6 a8 a10 σ = some r), nJ p l e rmX5_market s m args below meth c 0 0 (MQ below (nQl D B r σ s.heap.size) args s 0 0 (nA B s.heap.size)) D B 11 68 [(0, .ref (na B 0)), (1, .int a1), (3, .int a3), (4, .int a4), (5, .int a5), (6, .long a6), (8, .long a8), (10, .int a10)] [] σ := by
    intro  n
    induction n with
    | zero => intro a1 a3 a4 a5 a6 a8 a10 h; cases h
    | succ n ih =>
        intro a1 a3 a4 a5 a6 a8 a10 h
        rw [fX5_market_b68] at h
        refine nx_iload C0 7 dX5_market_68 rfl ?_
        refine nx_aload_n C0 0 dX5_market_70 rfl ?_
        refine nx_gX5_now C0 hh0 hh1 dX5_market_71 ?_
        refine nx_gX4_people C0 nT1 hh2 hh3 dX5_market_74 ?_
        refine nx_icmp_ge (tgt := 123) C0 dX5_market_77 (by decide) (fun q => ?_) (fun q => ?_)
        · have h := nift q h
          refine nx_lload C0 5 dX5_market_123 rfl ?_
          refine nx_lload C0 6 dX5_market_125 rfl ?_
          refine nx_lsub C0 dX5_market_127 ?_
          refine nx_lload C0 5 dX5_market_128 rfl ?_
          refine nx_iload C0 3 dX5_market_130 rfl ?_
          obtain ⟨r2, c1, h⟩ := nbind h
          refine nx_cSl (n := 3) (As := [.long (a6 - a8), .long a6, .int a4]) (st := []) C0 (mX5_partOf l D B hB (a6 - a8) a6 a4 σ c1) gX5_market_X5_partOf rfl rfl rfl ndX5_partOf ⟨Nat.le_of_ble_eq_true rfl, Nat.le_of_ble_eq_true rfl⟩ rfl (Nat.le_of_ble_eq_true rfl) rfl dX5_market_132 ?_
          exact nr_l C0 hr dX5_market_135 h
        · have h := niff q h
          refine nx_iload C0 7 dX5_market_80 rfl ?_
          refine nx_iload_n C0 1 dX5_market_82 rfl ?_
          refine nx_icmp_eq (tgt := 117) C0 dX5_market_83 (by decide) (fun q => ?_) (fun q => ?_)
          · have h := nift q h
            obtain ⟨v3, ev3, h⟩ := nlet h
            refine nx_iinc (v := v3) (lv' := [(10, .int v3), (0, .ref (na B 0)), (1, .int a1), (3, .int a3), (4, .int a4), (5, .int a5), (6, .long a6), (8, .long a8)]) C0 7 dX5_market_117 rfl ev3 (by decide) rfl ?_
            refine nx_goto (tgt := 68) C0 dX5_market_120 (by decide) ?_
            refine nx_lv (lv' := [(0, .ref (na B 0)), (1, .int a1), (3, .int a3), (4, .int a4), (5, .int a5), (6, .long a6), (8, .long a8), (10, .int v3)]) [1, 2, 3, 4, 5, 6, 7, 0] rfl ?_
            exact ih a1 a3 a4 a5 a6 a8 v3 h
          · have h := niff q h
            refine nx_aload_n C0 0 dX5_market_86 rfl ?_
            refine nx_gX5_now C0 hh0 hh1 dX5_market_87 ?_
            refine nx_iload C0 7 dX5_market_90 rfl ?_
            obtain ⟨r5, c4, h⟩ := nbind h
            refine nx_cVi (ci := 4) (n := 1) (As := [.int a10]) (st := []) C0 (mX4_goodsHad l D B hB nT1 a10 σ c4) gX5_market_X4_goodsHad rfl rfl rfl ndX4_goodsHad ⟨Nat.le_of_ble_eq_true rfl, Nat.le_of_ble_eq_true rfl⟩ (by have := nT_lt nT1; omega) (nT_e nT1 _) rfl rfl rfl (Nat.le_of_ble_eq_true rfl) rfl dX5_market_92 ?_
            refine nx_iload C0 4 dX5_market_95 rfl ?_
            refine nx_iand C0 dX5_market_97 ?_
            refine nx_if_eq (tgt := 117) C0 dX5_market_98 (by decide) (fun q => ?_) (fun q => ?_)
            · have h := nift q h
              obtain ⟨v6, ev6, h⟩ := nlet h
              refine nx_iinc (v := v6) (lv' := [(10, .int v6), (0, .ref (na B 0)), (1, .int a1), (3, .int a3), (4, .int a4), (5, .int a5), (6, .long a6), (8, .long a8)]) C0 7 dX5_market_117 rfl ev6 (by decide) rfl ?_
              refine nx_goto (tgt := 68) C0 dX5_market_120 (by decide) ?_
              refine nx_lv (lv' := [(0, .ref (na B 0)), (1, .int a1), (3, .int a3), (4, .int a4), (5, .int a5), (6, .long a6), (8, .long a8), (10, .int v6)]) [1, 2, 3, 4, 5, 6, 7, 0] rfl ?_
              exact ih a1 a3 a4 a5 a6 a8 v6 h
            · have h := niff q h
              refine nx_lload C0 5 dX5_market_101 rfl ?_
              refine nx_iload_n C0 2 dX5_market_103 rfl ?_
              refine nx_i2l C0 dX5_market_104 ?_
              refine nx_lmul C0 dX5_market_105 ?_
              obtain ⟨v7, ev7, h⟩ := nlet h
              refine nx_lstore (i := 6) (y := v7) (lv' := [(6, .long v7), (0, .ref (na B 0)), (1, .int a1), (3, .int a3), (4, .int a4), (5, .int a5), (8, .long a8), (10, .int a10)]) C0 dX5_market_106 (by decide) ev7 rfl ?_
              refine nx_lload C0 6 dX5_market_108 rfl ?_
              refine nx_iload_n C0 3 dX5_market_110 rfl ?_
              refine nx_iconst (v := 1) C0 dX5_market_111 (by decide) ?_
              refine nx_isub C0 dX5_market_112 ?_
              refine nx_i2l C0 dX5_market_113 ?_
              refine nx_lmul C0 dX5_market_114 ?_
              obtain ⟨v8, ev8, h⟩ := nlet h
              refine nx_lstore (i := 8) (y := v8) (lv' := [(8, .long v8), (6, .long v7), (0, .ref (na B 0)), (1, .int a1), (3, .int a3), (4, .int a4), (5, .int a5), (10, .int a10)]) C0 dX5_market_115 (by decide) ev8 rfl ?_
              obtain ⟨v9, ev9, h⟩ := nlet h
              refine nx_iinc (v := v9) (lv' := [(10, .int v9), (8, .long v8), (6, .long v7), (0, .ref (na B 0)), (1, .int a1), (3, .int a3), (4, .int a4), (5, .int a5)]) C0 7 dX5_market_117 rfl ev9 (by decide) rfl ?_
              refine nx_goto (tgt := 68) C0 dX5_market_120 (by decide) ?_
              refine nx_lv (lv' := [(0, .ref (na B 0)), (1, .int a1), (3, .int a3), (4, .int a4), (5, .int a5), (6, .long v7), (8, .long v8), (10, .int v9)]) [3, 4, 5, 6, 7, 2, 1, 0] rfl ?_
              exact ih a1 a3 a4 a5 v7 v8 v9 h
  refine nx_lv (lv' := [(0, .ref (na B 0)), (1, .int x1), (2, .int x2), (3, .int x3), (4, .int x4)]) [0, 1, 2, 3, 4] rfl ?_
  rw [fX5_market] at h
  refine nx_aload_n C0 0 dX5_market_0 rfl ?_
  refine nx_gX5_now C0 hh0 hh1 dX5_market_1 ?_
  refine nx_iload_n C0 1 dX5_market_4 rfl ?_
  obtain ⟨r11, c10, h⟩ := nbind h
  refine nx_cVi (ci := 4) (n := 1) (As := [.int x1]) (st := []) C0 (mX4_isPerson l D B hB nT1 x1 σ c10) gX5_market_X4_isPerson rfl rfl rfl ndX4_isPerson ⟨Nat.le_of_ble_eq_true rfl, Nat.le_of_ble_eq_true rfl⟩ (by have := nT_lt nT1; omega) (nT_e nT1 _) rfl rfl rfl (Nat.le_of_ble_eq_true rfl) rfl dX5_market_5 ?_
  refine nx_if_eq (tgt := 44) C0 dX5_market_8 (by decide) (fun q => ?_) (fun q => ?_)
  · have h := nift q h
    refine nx_ldc2 (v := 1000000001) C0 dX5_market_44 hh4 ?_
    exact nr_l C0 hr dX5_market_47 h
  · have h := niff q h
    refine nx_aload_n C0 0 dX5_market_11 rfl ?_
    refine nx_gX5_now C0 hh0 hh1 dX5_market_12 ?_
    refine nx_iload_n C0 2 dX5_market_15 rfl ?_
    obtain ⟨r13, c12, h⟩ := nbind h
    refine nx_cVi (ci := 4) (n := 1) (As := [.int x2]) (st := []) C0 (mX4_isGoods l D B hB nT1 x2 σ c12) gX5_market_X4_isGoods rfl rfl rfl ndX4_isGoods ⟨Nat.le_of_ble_eq_true rfl, Nat.le_of_ble_eq_true rfl⟩ (by have := nT_lt nT1; omega) (nT_e nT1 _) rfl rfl rfl (Nat.le_of_ble_eq_true rfl) rfl dX5_market_16 ?_
    refine nx_if_eq (tgt := 44) C0 dX5_market_19 (by decide) (fun q => ?_) (fun q => ?_)
    · have h := nift q h
      refine nx_ldc2 (v := 1000000001) C0 dX5_market_44 hh4 ?_
      exact nr_l C0 hr dX5_market_47 h
    · have h := niff q h
      refine nx_iload_n C0 3 dX5_market_22 rfl ?_
      refine nx_iconst (v := 2) C0 dX5_market_23 (by decide) ?_
      refine nx_icmp_lt (tgt := 44) C0 dX5_market_24 (by decide) (fun q => ?_) (fun q => ?_)
      · have h := nift q h
        refine nx_ldc2 (v := 1000000001) C0 dX5_market_44 hh4 ?_
        exact nr_l C0 hr dX5_market_47 h
      · have h := niff q h
        refine nx_iload_n C0 3 dX5_market_27 rfl ?_
        refine nx_bipush (v := 20) C0 dX5_market_28 (by decide) ?_
        refine nx_icmp_gt (tgt := 44) C0 dX5_market_30 (by decide) (fun q => ?_) (fun q => ?_)
        · have h := nift q h
          refine nx_ldc2 (v := 1000000001) C0 dX5_market_44 hh4 ?_
          exact nr_l C0 hr dX5_market_47 h
        · have h := niff q h
          refine nx_iload C0 4 dX5_market_33 rfl ?_
          refine nx_if_lt (tgt := 44) C0 dX5_market_35 (by decide) (fun q => ?_) (fun q => ?_)
          · have h := nift q h
            refine nx_ldc2 (v := 1000000001) C0 dX5_market_44 hh4 ?_
            exact nr_l C0 hr dX5_market_47 h
          · have h := niff q h
            refine nx_iload C0 4 dX5_market_38 rfl ?_
            refine nx_iconst (v := 1) C0 dX5_market_40 (by decide) ?_
            refine nx_icmp_le (tgt := 48) C0 dX5_market_41 (by decide) (fun q => ?_) (fun q => ?_)
            · have h := nift q h
              refine nx_aload_n C0 0 dX5_market_48 rfl ?_
              refine nx_gX5_now C0 hh0 hh1 dX5_market_49 ?_
              refine nx_iload_n C0 1 dX5_market_52 rfl ?_
              refine nx_iload_n C0 2 dX5_market_53 rfl ?_
              obtain ⟨r15, c14, h⟩ := nbind h
              refine nx_cVi (ci := 4) (n := 2) (As := [.int x1, .int x2]) (st := []) C0 (mX4_takenFor l D B hB nT1 x1 x2 σ c14) gX5_market_X4_takenFor rfl rfl rfl ndX4_takenFor ⟨Nat.le_of_ble_eq_true rfl, Nat.le_of_ble_eq_true rfl⟩ (by have := nT_lt nT1; omega) (nT_e nT1 _) rfl rfl rfl (Nat.le_of_ble_eq_true rfl) rfl dX5_market_54 ?_
              refine nx_istore (i := 5) (y := r15) (lv' := [(5, .int r15), (0, .ref (na B 0)), (1, .int x1), (2, .int x2), (3, .int x3), (4, .int x4)]) C0 dX5_market_57 (by decide) rfl rfl ?_
              refine nx_lconst (v := 1) C0 dX5_market_59 (by decide) ?_
              refine nx_lstore (i := 6) (y := (1 : Int64)) (lv' := [(6, .long (1 : Int64)), (5, .int r15), (0, .ref (na B 0)), (1, .int x1), (2, .int x2), (3, .int x3), (4, .int x4)]) C0 dX5_market_60 (by decide) rfl rfl ?_
              refine nx_lconst (v := 1) C0 dX5_market_62 (by decide) ?_
              refine nx_lstore (i := 8) (y := (1 : Int64)) (lv' := [(8, .long (1 : Int64)), (6, .long (1 : Int64)), (5, .int r15), (0, .ref (na B 0)), (1, .int x1), (2, .int x2), (3, .int x3), (4, .int x4)]) C0 dX5_market_63 (by decide) rfl rfl ?_
              refine nx_iconst (v := 0) C0 dX5_market_65 (by decide) ?_
              refine nx_istore (i := 10) (y := (0 : Int32)) (lv' := [(10, .int (0 : Int32)), (8, .long (1 : Int64)), (6, .long (1 : Int64)), (5, .int r15), (0, .ref (na B 0)), (1, .int x1), (2, .int x2), (3, .int x3), (4, .int x4)]) C0 dX5_market_66 (by decide) rfl rfl ?_
              refine nx_lv (lv' := [(0, .ref (na B 0)), (1, .int x1), (3, .int x3), (4, .int x4), (5, .int r15), (6, .long (1 : Int64)), (8, .long (1 : Int64)), (10, .int (0 : Int32))]) [4, 5, 7, 8, 3, 2, 1, 0] rfl ?_
              exact hfX5_market_b68 4096 x1 x3 x4 r15 (1 : Int64) (1 : Int64) (0 : Int32) h
            · have h := niff q h
              refine nx_ldc2 (v := 1000000001) C0 dX5_market_44 hh4 ?_
              exact nr_l C0 hr dX5_market_47 h
def rmX5_mean : Room := { frames := 2, cells := 0, slots := 0, locals := 56 }
theorem ndX5_mean : yX5_mean.cls = RX5 ∧ yX5_mean.cls ≠ "java/lang/invoke/MethodHandle" ∧ yX5_mean.cls ≠ "java/lang/invoke/VarHandle" ∧ (parseMethodDescriptor yX5_mean.desc).map (fun d => d.parameters.length) = some 2 := by decide +kernel
set_option maxRecDepth 100000 in
set_option maxHeartbeats 4000000 in
theorem mX5_mean (l : Launch) (D : va_G) (B : nBT) (hB : nInj B) (x1 : Int32) (x2 : Int32) (σ : nS) {r : Int64}  (h : fX5_mean x1 x2 σ = some r) : nMl l D B yX5_mean wsX5_mean rmX5_mean [.ref (na B 0), .int x1, .int x2] σ r σ := by
  refine nmet (cc := cX5_mean) (maxL := 6) (ret := (some .long)) (own := RX5) (av := [.ref (na B 0), .int x1, .int x2]) (nQl D B r σ) hB (by decide) rfl rfl (Nat.le_of_ble_eq_true rfl) (fun p e s m args below meth c C0 hr => ?_)
  have hh0 : ∀ w ∈ wsX50, w ∈ wsX5_mean := by decide +kernel
  have hh1 := C0.2.2.2.2.1 (Cond.fieldLink RX5 10 "NotInTheCoin" "now" "LNotInTheCoin$Town;") (by decide +kernel)
  have hh2 : ∀ w ∈ wsX40, w ∈ wsX5_mean := by decide +kernel
  have hh3 := C0.2.2.2.2.1 (Cond.fieldLink RX5 230 "NotInTheCoin$Town" "goods" "I") (by decide +kernel)
  have hh4 := C0.2.2.2.2.1 (Cond.constantLong RX5 245 (1000000001)) (by decide +kernel)
  have hfX5_mean_b84 : ∀  (a2 : Int32) (z0 : Int64) (z1 : Int64) (h : fX5_mean_b84  a2 z0 z1 σ = some r), nJ p l e rmX5_mean s m args below meth c 0 0 (MQ below (nQl D B r σ s.heap.size) args s 0 0 (nA B s.heap.size)) D B 6 84 [(2, .int a2)] [.long z0, .long z1] σ := by
    intro  a2 z0 z1 h
    rw [fX5_mean_b84] at h
    refine nx_iload_n C0 0 dX5_mean_84 rfl ?_
    obtain ⟨r2, c1, h⟩ := nbind h
    refine nx_cSl (n := 3) (As := [.long z1, .long z0, .int a2]) (st := []) C0 (mX5_partOf l D B hB z1 z0 a2 σ c1) gX5_mean_X5_partOf rfl rfl rfl ndX5_partOf ⟨Nat.le_of_ble_eq_true rfl, Nat.le_of_ble_eq_true rfl⟩ rfl (Nat.le_of_ble_eq_true rfl) rfl dX5_mean_85 ?_
    exact nr_l C0 hr dX5_mean_88 h
  have hfX5_mean_b29 : ∀  (n : Nat) (a1 : Int32) (a2 : Int32) (a3 : Int64) (a5 : Int32) (h : fX5_mean_b29  n a1 a2 a3 a5 σ = some r), nJ p l e rmX5_mean s m args below meth c 0 0 (MQ below (nQl D B r σ s.heap.size) args s 0 0 (nA B s.heap.size)) D B 6 29 [(0, .ref (na B 0)), (1, .int a1), (2, .int a2), (3, .long a3), (5, .int a5)] [] σ := by
    intro  n
    induction n with
    | zero => intro a1 a2 a3 a5 h; cases h
    | succ n ih =>
        intro a1 a2 a3 a5 h
        rw [fX5_mean_b29] at h
        refine nx_iload C0 4 dX5_mean_29 rfl ?_
        refine nx_aload_n C0 0 dX5_mean_31 rfl ?_
        refine nx_gX5_now C0 hh0 hh1 dX5_mean_32 ?_
        refine nx_gX4_goods C0 nT1 hh2 hh3 dX5_mean_35 ?_
        refine nx_icmp_ge (tgt := 61) C0 dX5_mean_38 (by decide) (fun q => ?_) (fun q => ?_)
        · have h := nift q h
          refine nx_lload_n C0 3 dX5_mean_61 rfl ?_
          refine nx_aload_n C0 0 dX5_mean_62 rfl ?_
          refine nx_gX5_now C0 hh0 hh1 dX5_mean_63 ?_
          refine nx_gX4_goods C0 nT1 hh2 hh3 dX5_mean_66 ?_
          refine nx_if_le (tgt := 83) C0 dX5_mean_69 (by decide) (fun q => ?_) (fun q => ?_)
          · have h := nift q h
            refine nx_lconst (v := 1) C0 dX5_mean_83 (by decide) ?_
            refine nx_lv (lv' := [(2, .int a2)]) [2] rfl ?_
            exact hfX5_mean_b84 a2 (1 : Int64) a3 h
          · have h := niff q h
            refine nx_aload_n C0 0 dX5_mean_72 rfl ?_
            refine nx_gX5_now C0 hh0 hh1 dX5_mean_73 ?_
            refine nx_gX4_goods C0 nT1 hh2 hh3 dX5_mean_76 ?_
            refine nx_i2l C0 dX5_mean_79 ?_
            refine nx_goto (tgt := 84) C0 dX5_mean_80 (by decide) ?_
            refine nx_lv (lv' := [(2, .int a2)]) [2] rfl ?_
            exact hfX5_mean_b84 a2 (((σ 1 3)).toInt64) a3 h
        · have h := niff q h
          refine nx_lload_n C0 3 dX5_mean_41 rfl ?_
          refine nx_aload_n C0 0 dX5_mean_42 rfl ?_
          refine nx_gX5_now C0 hh0 hh1 dX5_mean_43 ?_
          refine nx_iload_n C0 1 dX5_mean_46 rfl ?_
          refine nx_iload C0 4 dX5_mean_47 rfl ?_
          obtain ⟨r4, c3, h⟩ := nbind h
          refine nx_cVi (ci := 4) (n := 2) (As := [.int a1, .int a5]) (st := [.long a3]) C0 (mX4_worthTo l D B hB nT1 a1 a5 σ c3) gX5_mean_X4_worthTo rfl rfl rfl ndX4_worthTo ⟨Nat.le_of_ble_eq_true rfl, Nat.le_of_ble_eq_true rfl⟩ (by have := nT_lt nT1; omega) (nT_e nT1 _) rfl rfl rfl (Nat.le_of_ble_eq_true rfl) rfl dX5_mean_49 ?_
          refine nx_i2l C0 dX5_mean_52 ?_
          refine nx_ladd C0 dX5_mean_53 ?_
          obtain ⟨v5, ev5, h⟩ := nlet h
          refine nx_lstore_n (i := 3) (y := v5) (lv' := [(3, .long v5), (0, .ref (na B 0)), (1, .int a1), (2, .int a2), (5, .int a5)]) C0 dX5_mean_54 rfl (by decide) ev5 rfl ?_
          obtain ⟨v6, ev6, h⟩ := nlet h
          refine nx_iinc (v := v6) (lv' := [(5, .int v6), (3, .long v5), (0, .ref (na B 0)), (1, .int a1), (2, .int a2)]) C0 4 dX5_mean_55 rfl ev6 (by decide) rfl ?_
          refine nx_goto (tgt := 29) C0 dX5_mean_58 (by decide) ?_
          refine nx_lv (lv' := [(0, .ref (na B 0)), (1, .int a1), (2, .int a2), (3, .long v5), (5, .int v6)]) [2, 3, 4, 1, 0] rfl ?_
          exact ih a1 a2 v5 v6 h
  refine nx_lv (lv' := [(0, .ref (na B 0)), (1, .int x1), (2, .int x2)]) [0, 1, 2] rfl ?_
  rw [fX5_mean] at h
  refine nx_aload_n C0 0 dX5_mean_0 rfl ?_
  refine nx_gX5_now C0 hh0 hh1 dX5_mean_1 ?_
  refine nx_iload_n C0 1 dX5_mean_4 rfl ?_
  obtain ⟨r8, c7, h⟩ := nbind h
  refine nx_cVi (ci := 4) (n := 1) (As := [.int x1]) (st := []) C0 (mX4_isPerson l D B hB nT1 x1 σ c7) gX5_mean_X4_isPerson rfl rfl rfl ndX4_isPerson ⟨Nat.le_of_ble_eq_true rfl, Nat.le_of_ble_eq_true rfl⟩ (by have := nT_lt nT1; omega) (nT_e nT1 _) rfl rfl rfl (Nat.le_of_ble_eq_true rfl) rfl dX5_mean_5 ?_
  refine nx_if_eq (tgt := 20) C0 dX5_mean_8 (by decide) (fun q => ?_) (fun q => ?_)
  · have h := nift q h
    refine nx_ldc2 (v := 1000000001) C0 dX5_mean_20 hh4 ?_
    exact nr_l C0 hr dX5_mean_23 h
  · have h := niff q h
    refine nx_iload_n C0 2 dX5_mean_11 rfl ?_
    refine nx_if_lt (tgt := 20) C0 dX5_mean_12 (by decide) (fun q => ?_) (fun q => ?_)
    · have h := nift q h
      refine nx_ldc2 (v := 1000000001) C0 dX5_mean_20 hh4 ?_
      exact nr_l C0 hr dX5_mean_23 h
    · have h := niff q h
      refine nx_iload_n C0 2 dX5_mean_15 rfl ?_
      refine nx_iconst (v := 1) C0 dX5_mean_16 (by decide) ?_
      refine nx_icmp_le (tgt := 24) C0 dX5_mean_17 (by decide) (fun q => ?_) (fun q => ?_)
      · have h := nift q h
        refine nx_lconst (v := 0) C0 dX5_mean_24 (by decide) ?_
        refine nx_lstore_n (i := 3) (y := (0 : Int64)) (lv' := [(3, .long (0 : Int64)), (0, .ref (na B 0)), (1, .int x1), (2, .int x2)]) C0 dX5_mean_25 rfl (by decide) rfl rfl ?_
        refine nx_iconst (v := 0) C0 dX5_mean_26 (by decide) ?_
        refine nx_istore (i := 5) (y := (0 : Int32)) (lv' := [(5, .int (0 : Int32)), (3, .long (0 : Int64)), (0, .ref (na B 0)), (1, .int x1), (2, .int x2)]) C0 dX5_mean_27 (by decide) rfl rfl ?_
        refine nx_lv (lv' := [(0, .ref (na B 0)), (1, .int x1), (2, .int x2), (3, .long (0 : Int64)), (5, .int (0 : Int32))]) [2, 3, 4, 1, 0] rfl ?_
        exact hfX5_mean_b29 4096 x1 x2 (0 : Int64) (0 : Int32) h
      · have h := niff q h
        refine nx_ldc2 (v := 1000000001) C0 dX5_mean_20 hh4 ?_
        exact nr_l C0 hr dX5_mean_23 h
def rmX5_forged : Room := { frames := 3, cells := 0, slots := 0, locals := 78 }
theorem ndX5_forged : yX5_forged.cls = RX5 ∧ yX5_forged.cls ≠ "java/lang/invoke/MethodHandle" ∧ yX5_forged.cls ≠ "java/lang/invoke/VarHandle" ∧ (parseMethodDescriptor yX5_forged.desc).map (fun d => d.parameters.length) = some 2 := by decide +kernel
set_option maxRecDepth 100000 in
set_option maxHeartbeats 4000000 in
theorem mX5_forged (l : Launch) (D : va_G) (B : nBT) (hB : nInj B) (x1 : Int32) (x2 : Int32) (σ : nS) {r : Int32}  (h : fX5_forged x1 x2 σ = some r) : nMi l D B yX5_forged wsX5_forged rmX5_forged [.ref (na B 0), .int x1, .int x2] σ r σ := by
  refine nmet (cc := cX5_forged) (maxL := 6) (ret := (some .int)) (own := RX5) (av := [.ref (na B 0), .int x1, .int x2]) (nQi D B r σ) hB (by decide) rfl rfl (Nat.le_of_ble_eq_true rfl) (fun p e s m args below meth c C0 hr => ?_)
  have hh0 : ∀ w ∈ wsX10, w ∈ wsX5_forged := by decide +kernel
  have hh1 := C0.2.2.2.2.1 (Cond.fieldLink RX5 70 "NotInTheCoin$Shelf" "size" "I") (by decide +kernel)
  have hh2 : ∀ w ∈ wsX50, w ∈ wsX5_forged := by decide +kernel
  have hh3 := C0.2.2.2.2.1 (Cond.fieldLink RX5 10 "NotInTheCoin" "now" "LNotInTheCoin$Town;") (by decide +kernel)
  have hh4 := C0.2.2.2.2.1 (Cond.fieldLink RX5 77 "NotInTheCoin$Shelf" "cells" "[I") (by decide +kernel)
  have hh5 := C0.2.2.2.2.1 (Cond.fieldLink RX5 24 "NotInTheCoin" "shelves" "[LNotInTheCoin$Shelf;") (by decide +kernel)
  have hfX5_forged_b48 : ∀  (n : Nat) (a2 : Int32) (k_4 : Nat) (hk_4 : nSh k_4) (a5 : Int32) (h : fX5_forged_b48  n a2 k_4 a5 σ = some r), nJ p l e rmX5_forged s m args below meth c 0 0 (MQ below (nQi D B r σ s.heap.size) args s 0 0 (nA B s.heap.size)) D B 6 48 [(0, .ref (na B 0)), (2, .int a2), (4, .ref (na B k_4)), (5, .int a5)] [] σ := by
    intro  n
    induction n with
    | zero => intro a2 k_4 hk_4 a5 h; cases h
    | succ n ih =>
        intro a2 k_4 hk_4 a5 h
        rw [fX5_forged_b48] at h
        refine nx_iload C0 3 dX5_forged_48 rfl ?_
        refine nx_aload C0 2 dX5_forged_50 rfl ?_
        refine nx_gX1_size C0 hk_4 hh0 hh1 dX5_forged_52 ?_
        refine nx_icmp_ge (tgt := 122) C0 dX5_forged_55 (by decide) (fun q => ?_) (fun q => ?_)
        · have h := nift q h
          refine nx_bipush (v := -4) C0 dX5_forged_122 (by decide) ?_
          exact nr_i C0 hr dX5_forged_124 h
        · have h := niff q h
          refine nx_aload_n C0 0 dX5_forged_58 rfl ?_
          refine nx_gX5_now C0 hh2 hh3 dX5_forged_59 ?_
          refine nx_aload C0 2 dX5_forged_62 rfl ?_
          refine nx_gX1_cells C0 hk_4 hh0 hh4 dX5_forged_64 ?_
          refine nx_iload C0 3 dX5_forged_67 rfl ?_
          obtain ⟨g1, h⟩ := nguard h
          refine nx_iald C0 (nSh_c hk_4) g1 dX5_forged_69 ?_
          obtain ⟨r3, c2, h⟩ := nbind h
          refine nx_cVi (ci := 4) (n := 1) (As := [.int (σ (k_4 + 1) (a5).toNatClampNeg)]) (st := []) C0 (mX4_isGoods l D B hB nT1 (σ (k_4 + 1) (a5).toNatClampNeg) σ c2) gX5_forged_X4_isGoods rfl rfl rfl ndX4_isGoods ⟨Nat.le_of_ble_eq_true rfl, Nat.le_of_ble_eq_true rfl⟩ (by have := nT_lt nT1; omega) (nT_e nT1 _) rfl rfl rfl (Nat.le_of_ble_eq_true rfl) rfl dX5_forged_70 ?_
          refine nx_if_ne (tgt := 79) C0 dX5_forged_73 (by decide) (fun q => ?_) (fun q => ?_)
          · have h := niff q h
            refine nx_iload C0 3 dX5_forged_79 rfl ?_
            refine nx_if_le (tgt := 116) C0 dX5_forged_81 (by decide) (fun q => ?_) (fun q => ?_)
            · have h := nift q h
              obtain ⟨v4, ev4, h⟩ := nlet h
              refine nx_iinc (v := v4) (lv' := [(5, .int v4), (0, .ref (na B 0)), (2, .int a2), (4, .ref (na B k_4))]) C0 3 dX5_forged_116 rfl ev4 (by decide) rfl ?_
              refine nx_goto (tgt := 48) C0 dX5_forged_119 (by decide) ?_
              refine nx_lv (lv' := [(0, .ref (na B 0)), (2, .int a2), (4, .ref (na B k_4)), (5, .int v4)]) [1, 2, 3, 0] rfl ?_
              exact ih a2 k_4 hk_4 v4 h
            · have h := niff q h
              refine nx_aload_n C0 0 dX5_forged_84 rfl ?_
              refine nx_gX5_now C0 hh2 hh3 dX5_forged_85 ?_
              refine nx_iload_n C0 1 dX5_forged_88 rfl ?_
              refine nx_aload C0 2 dX5_forged_89 rfl ?_
              refine nx_gX1_cells C0 hk_4 hh0 hh4 dX5_forged_91 ?_
              refine nx_iload C0 3 dX5_forged_94 rfl ?_
              refine nx_iconst (v := 1) C0 dX5_forged_96 (by decide) ?_
              refine nx_isub C0 dX5_forged_97 ?_
              obtain ⟨g5, h⟩ := nguard h
              refine nx_iald C0 (nSh_c hk_4) g5 dX5_forged_98 ?_
              refine nx_aload C0 2 dX5_forged_99 rfl ?_
              refine nx_gX1_cells C0 hk_4 hh0 hh4 dX5_forged_101 ?_
              refine nx_iload C0 3 dX5_forged_104 rfl ?_
              obtain ⟨g6, h⟩ := nguard h
              refine nx_iald C0 (nSh_c hk_4) g6 dX5_forged_106 ?_
              obtain ⟨r8, c7, h⟩ := nbind h
              refine nx_cVi (ci := 4) (n := 3) (As := [.int a2, .int (σ (k_4 + 1) ((a5 - (1 : Int32))).toNatClampNeg), .int (σ (k_4 + 1) (a5).toNatClampNeg)]) (st := []) C0 (mX4_isTaken l D B hB nT1 a2 (σ (k_4 + 1) ((a5 - (1 : Int32))).toNatClampNeg) (σ (k_4 + 1) (a5).toNatClampNeg) σ c7) gX5_forged_X4_isTaken rfl rfl rfl ndX4_isTaken ⟨Nat.le_of_ble_eq_true rfl, Nat.le_of_ble_eq_true rfl⟩ (by have := nT_lt nT1; omega) (nT_e nT1 _) rfl rfl rfl (Nat.le_of_ble_eq_true rfl) rfl dX5_forged_107 ?_
              refine nx_if_ne (tgt := 116) C0 dX5_forged_110 (by decide) (fun q => ?_) (fun q => ?_)
              · have h := niff q h
                obtain ⟨v9, ev9, h⟩ := nlet h
                refine nx_iinc (v := v9) (lv' := [(5, .int v9), (0, .ref (na B 0)), (2, .int a2), (4, .ref (na B k_4))]) C0 3 dX5_forged_116 rfl ev9 (by decide) rfl ?_
                refine nx_goto (tgt := 48) C0 dX5_forged_119 (by decide) ?_
                refine nx_lv (lv' := [(0, .ref (na B 0)), (2, .int a2), (4, .ref (na B k_4)), (5, .int v9)]) [1, 2, 3, 0] rfl ?_
                exact ih a2 k_4 hk_4 v9 h
              · have h := nift q h
                refine nx_iload C0 3 dX5_forged_113 rfl ?_
                exact nr_i C0 hr dX5_forged_115 h
          · have h := nift q h
            refine nx_iload C0 3 dX5_forged_76 rfl ?_
            exact nr_i C0 hr dX5_forged_78 h
  refine nx_lv (lv' := [(0, .ref (na B 0)), (1, .int x1), (2, .int x2)]) [0, 1, 2] rfl ?_
  rw [fX5_forged] at h
  refine nx_iload_n C0 1 dX5_forged_0 rfl ?_
  obtain ⟨r11, c10, h⟩ := nbind h
  refine nx_cSi (n := 1) (As := [.int x1]) (st := []) C0 (mX5_isShelf l D B hB x1 σ c10) gX5_forged_X5_isShelf rfl rfl rfl ndX5_isShelf ⟨Nat.le_of_ble_eq_true rfl, Nat.le_of_ble_eq_true rfl⟩ rfl (Nat.le_of_ble_eq_true rfl) rfl dX5_forged_1 ?_
  refine nx_if_eq (tgt := 18) C0 dX5_forged_4 (by decide) (fun q => ?_) (fun q => ?_)
  · have h := nift q h
    refine nx_iconst (v := -1) C0 dX5_forged_18 (by decide) ?_
    exact nr_i C0 hr dX5_forged_19 h
  · have h := niff q h
    refine nx_aload_n C0 0 dX5_forged_7 rfl ?_
    refine nx_gX5_now C0 hh2 hh3 dX5_forged_8 ?_
    refine nx_iload_n C0 2 dX5_forged_11 rfl ?_
    obtain ⟨r13, c12, h⟩ := nbind h
    refine nx_cVi (ci := 4) (n := 1) (As := [.int x2]) (st := []) C0 (mX4_isPerson l D B hB nT1 x2 σ c12) gX5_forged_X4_isPerson rfl rfl rfl ndX4_isPerson ⟨Nat.le_of_ble_eq_true rfl, Nat.le_of_ble_eq_true rfl⟩ (by have := nT_lt nT1; omega) (nT_e nT1 _) rfl rfl rfl (Nat.le_of_ble_eq_true rfl) rfl dX5_forged_12 ?_
    refine nx_if_ne (tgt := 20) C0 dX5_forged_15 (by decide) (fun q => ?_) (fun q => ?_)
    · have h := niff q h
      refine nx_aload_n C0 0 dX5_forged_20 rfl ?_
      refine nx_gX5_shelves C0 hh2 hh5 dX5_forged_21 ?_
      refine nx_iload_n C0 1 dX5_forged_24 rfl ?_
      obtain ⟨g14, h⟩ := nguard h
      refine nx_aldS C0 g14 dX5_forged_25 ?_
      refine nx_iconst (v := 2) C0 dX5_forged_26 (by decide) ?_
      obtain ⟨r16, c15, h⟩ := nbind h
      refine nx_cVi (ci := 1) (n := 1) (As := [.int (2 : Int32)]) (st := []) C0 (mX1_refusal l D B hB (nSh_of g14) (2 : Int32) σ c15) gX5_forged_X1_refusal rfl rfl rfl ndX1_refusal ⟨Nat.le_of_ble_eq_true rfl, Nat.le_of_ble_eq_true rfl⟩ (by have := nSh_lt (nSh_of g14); omega) (nSh_e (nSh_of g14) _) rfl rfl rfl (Nat.le_of_ble_eq_true rfl) rfl dX5_forged_27 ?_
      refine nx_istore_n (i := 3) (y := r16) (lv' := [(3, .int r16), (0, .ref (na B 0)), (1, .int x1), (2, .int x2)]) C0 dX5_forged_30 rfl (by decide) rfl rfl ?_
      refine nx_iload_n C0 0 dX5_forged_31 rfl ?_
      refine nx_if_eq (tgt := 37) C0 dX5_forged_32 (by decide) (fun q => ?_) (fun q => ?_)
      · have h := nift q h
        refine nx_aload_n C0 1 dX5_forged_37 rfl ?_
        refine nx_gX5_shelves C0 hh2 hh5 dX5_forged_38 ?_
        refine nx_iload_n C0 2 dX5_forged_41 rfl ?_
        obtain ⟨g17, h⟩ := nguard h
        refine nx_aldS C0 g17 dX5_forged_42 ?_
        refine nx_astore (i := 4) (y := na B (29 + 2 * (x1).toNatClampNeg)) (lv' := [(4, .ref (na B (29 + 2 * (x1).toNatClampNeg))), (3, .int r16), (0, .ref (na B 0)), (1, .int x1), (2, .int x2)]) C0 dX5_forged_43 (by decide) rfl rfl ?_
        refine nx_iconst (v := 0) C0 dX5_forged_45 (by decide) ?_
        refine nx_istore (i := 5) (y := (0 : Int32)) (lv' := [(5, .int (0 : Int32)), (4, .ref (na B (29 + 2 * (x1).toNatClampNeg))), (3, .int r16), (0, .ref (na B 0)), (1, .int x1), (2, .int x2)]) C0 dX5_forged_46 (by decide) rfl rfl ?_
        refine nx_lv (lv' := [(0, .ref (na B 0)), (2, .int x2), (4, .ref (na B (29 + 2 * (x1).toNatClampNeg))), (5, .int (0 : Int32))]) [3, 5, 1, 0] rfl ?_
        exact hfX5_forged_b48 4096 x2 (29 + 2 * (x1).toNatClampNeg) (nSh_of g17) (0 : Int32) h
      · have h := niff q h
        refine nx_iload_n C0 0 dX5_forged_35 rfl ?_
        exact nr_i C0 hr dX5_forged_36 h
    · have h := nift q h
      refine nx_iconst (v := -1) C0 dX5_forged_18 (by decide) ?_
      exact nr_i C0 hr dX5_forged_19 h
def rmX5_judge : Room := { frames := 4, cells := 0, slots := 0, locals := 99 }
theorem ndX5_judge : yX5_judge.cls = RX5 ∧ yX5_judge.cls ≠ "java/lang/invoke/MethodHandle" ∧ yX5_judge.cls ≠ "java/lang/invoke/VarHandle" ∧ (parseMethodDescriptor yX5_judge.desc).map (fun d => d.parameters.length) = some 1 := by decide +kernel
set_option maxRecDepth 100000 in
set_option maxHeartbeats 4000000 in
theorem mX5_judge (l : Launch) (D : va_G) (B : nBT) (hB : nInj B) (x1 : Int32) (σ : nS) {r : Int32} {σ1 : nS} (h : fX5_judge x1 σ = some (r, σ1)) : nMi l D B yX5_judge wsX5_judge rmX5_judge [.ref (na B 0), .int x1] σ r σ1 := by
  refine nmet (cc := cX5_judge) (maxL := 5) (ret := (some .int)) (own := RX5) (av := [.ref (na B 0), .int x1]) (nQi D B r σ1) hB (by decide) rfl rfl (Nat.le_of_ble_eq_true rfl) (fun p e s m args below meth c C0 hr => ?_)
  have hh0 : ∀ w ∈ wsX50, w ∈ wsX5_judge := by decide +kernel
  have hh1 := C0.2.2.2.2.1 (Cond.fieldLink RX5 16 "NotInTheCoin" "mind" "LNotInTheCoin$Town;") (by decide +kernel)
  have hh2 : ∀ w ∈ wsX10, w ∈ wsX5_judge := by decide +kernel
  have hh3 := C0.2.2.2.2.1 (Cond.fieldLink RX5 70 "NotInTheCoin$Shelf" "size" "I") (by decide +kernel)
  have hh4 := C0.2.2.2.2.1 (Cond.fieldLink RX5 77 "NotInTheCoin$Shelf" "cells" "[I") (by decide +kernel)
  have hh5 : ∀ w ∈ wsX40, w ∈ wsX5_judge := by decide +kernel
  have hh6 := C0.2.2.2.2.1 (Cond.fieldLink RX5 123 "NotInTheCoin$Town" "open" "I") (by decide +kernel)
  have hh7 := C0.2.2.2.2.1 (Cond.fieldLink RX5 24 "NotInTheCoin" "shelves" "[LNotInTheCoin$Shelf;") (by decide +kernel)
  have hh8 := C0.2.2.2.2.1 (Cond.fieldLink RX5 10 "NotInTheCoin" "now" "LNotInTheCoin$Town;") (by decide +kernel)
  have hfX5_judge_b88 : ∀ (s47 : Nat → Int32 → nS → Option (Int32 × nS)) (hs47 : ∀ (k_3 : Nat) (hk_3 : nSh k_3) (a4 : Int32) (σ : nS), s47 k_3 a4 σ = some (r, σ1) → nJ p l e rmX5_judge s m args below meth c 0 0 (MQ below (nQi D B r σ1 s.heap.size) args s 0 0 (nA B s.heap.size)) D B 5 47 [(0, .ref (na B 0)), (3, .ref (na B k_3)), (4, .int a4)] [] σ) (k_3 : Nat) (hk_3 : nSh k_3) (a4 : Int32) (σ : nS) (h : fX5_judge_b88 s47 k_3 a4 σ = some (r, σ1)), nJ p l e rmX5_judge s m args below meth c 0 0 (MQ below (nQi D B r σ1 s.heap.size) args s 0 0 (nA B s.heap.size)) D B 5 88 [(0, .ref (na B 0)), (3, .ref (na B k_3)), (4, .int a4)] [] σ := by
    intro s47 hs47 k_3 hk_3 a4 σ h
    rw [fX5_judge_b88] at h
    refine nx_aload_n C0 0 dX5_judge_88 rfl ?_
    refine nx_gX5_mind C0 hh0 hh1 dX5_judge_89 ?_
    obtain ⟨r2, t3, c1, h⟩ := nbind2 h
    refine nx_cVv (ci := 4) (n := 0) (As := []) (st := []) C0 (mX4_passWeek l D B hB nT10 σ c1) gX5_judge_X4_passWeek rfl rfl rfl ndX4_passWeek ⟨Nat.le_of_ble_eq_true rfl, Nat.le_of_ble_eq_true rfl⟩ (by have := nT_lt nT10; omega) (nT_e nT10 _) rfl rfl rfl (Nat.le_of_ble_eq_true rfl) rfl dX5_judge_92 ?_
    obtain ⟨v4, ev4, h⟩ := nlet h
    refine nx_iinc (v := v4) (lv' := [(4, .int v4), (0, .ref (na B 0)), (3, .ref (na B k_3))]) C0 2 dX5_judge_95 rfl ev4 (by decide) rfl ?_
    refine nx_goto (tgt := 47) C0 dX5_judge_98 (by decide) ?_
    refine nx_lv (lv' := [(0, .ref (na B 0)), (3, .ref (na B k_3)), (4, .int v4)]) [1, 2, 0] rfl ?_
    exact hs47 k_3 hk_3 v4 t3 h
  have hfX5_judge_b47 : ∀  (n : Nat) (k_3 : Nat) (hk_3 : nSh k_3) (a4 : Int32) (σ : nS) (h : fX5_judge_b47  n k_3 a4 σ = some (r, σ1)), nJ p l e rmX5_judge s m args below meth c 0 0 (MQ below (nQi D B r σ1 s.heap.size) args s 0 0 (nA B s.heap.size)) D B 5 47 [(0, .ref (na B 0)), (3, .ref (na B k_3)), (4, .int a4)] [] σ := by
    intro  n
    induction n with
    | zero => intro k_3 hk_3 a4 σ h; cases h
    | succ n ih =>
        intro k_3 hk_3 a4 σ h
        rw [fX5_judge_b47] at h
        refine nx_iload C0 2 dX5_judge_47 rfl ?_
        refine nx_aload_n C0 1 dX5_judge_49 rfl ?_
        refine nx_gX1_size C0 hk_3 hh2 hh3 dX5_judge_50 ?_
        refine nx_icmp_ge (tgt := 101) C0 dX5_judge_53 (by decide) (fun q => ?_) (fun q => ?_)
        · have h := nift q h
          refine nx_bipush (v := -4) C0 dX5_judge_101 (by decide) ?_
          exact nr_i2 C0 hr dX5_judge_103 h
        · have h := niff q h
          refine nx_aload_n C0 1 dX5_judge_56 rfl ?_
          refine nx_iload C0 2 dX5_judge_57 rfl ?_
          obtain ⟨r6, c5, h⟩ := nbind h
          refine nx_cVi (ci := 1) (n := 1) (As := [.int a4]) (st := []) C0 (mX1_isSkipped l D B hB hk_3 a4 σ c5) gX5_judge_X1_isSkipped rfl rfl rfl ndX1_isSkipped ⟨Nat.le_of_ble_eq_true rfl, Nat.le_of_ble_eq_true rfl⟩ (by have := nSh_lt hk_3; omega) (nSh_e hk_3 _) rfl rfl rfl (Nat.le_of_ble_eq_true rfl) rfl dX5_judge_59 ?_
          refine nx_if_ne (tgt := 88) C0 dX5_judge_62 (by decide) (fun q => ?_) (fun q => ?_)
          · have h := niff q h
            exact hfX5_judge_b88 (fX5_judge_b47 n) ih k_3 hk_3 a4 σ h
          · have h := nift q h
            refine nx_aload_n C0 1 dX5_judge_65 rfl ?_
            refine nx_gX1_cells C0 hk_3 hh2 hh4 dX5_judge_66 ?_
            refine nx_iload C0 2 dX5_judge_69 rfl ?_
            obtain ⟨g7, h⟩ := nguard h
            refine nx_iald C0 (nSh_c hk_3) g7 dX5_judge_71 ?_
            refine nx_aload_n C0 0 dX5_judge_72 rfl ?_
            refine nx_gX5_mind C0 hh0 hh1 dX5_judge_73 ?_
            refine nx_gX4_open C0 nT10 hh5 hh6 dX5_judge_76 ?_
            obtain ⟨r9, c8, h⟩ := nbind h
            refine nx_cSi (n := 1) (As := [.int (σ 10 10)]) (st := [.int (σ (k_3 + 1) (a4).toNatClampNeg)]) C0 (mJ6_bitCount_0f7a4 l D B hB (σ 10 10) σ c8) gX5_judge_J6_bitCount_0f7a4 rfl rfl rfl ndJ6_bitCount_0f7a4 ⟨Nat.le_of_ble_eq_true rfl, Nat.le_of_ble_eq_true rfl⟩ rfl (Nat.le_of_ble_eq_true rfl) rfl dX5_judge_79 ?_
            refine nx_icmp_eq (tgt := 88) C0 dX5_judge_82 (by decide) (fun q => ?_) (fun q => ?_)
            · have h := nift q h
              exact hfX5_judge_b88 (fX5_judge_b47 n) ih k_3 hk_3 a4 σ h
            · have h := niff q h
              refine nx_iload C0 2 dX5_judge_85 rfl ?_
              exact nr_i2 C0 hr dX5_judge_87 h
  refine nx_lv (lv' := [(0, .ref (na B 0)), (1, .int x1)]) [0, 1] rfl ?_
  rw [fX5_judge] at h
  refine nx_iload_n C0 1 dX5_judge_0 rfl ?_
  obtain ⟨r11, c10, h⟩ := nbind h
  refine nx_cSi (n := 1) (As := [.int x1]) (st := []) C0 (mX5_isShelf l D B hB x1 σ c10) gX5_judge_X5_isShelf rfl rfl rfl ndX5_isShelf ⟨Nat.le_of_ble_eq_true rfl, Nat.le_of_ble_eq_true rfl⟩ rfl (Nat.le_of_ble_eq_true rfl) rfl dX5_judge_1 ?_
  refine nx_if_ne (tgt := 9) C0 dX5_judge_4 (by decide) (fun q => ?_) (fun q => ?_)
  · have h := niff q h
    refine nx_aload_n C0 0 dX5_judge_9 rfl ?_
    refine nx_gX5_shelves C0 hh0 hh7 dX5_judge_10 ?_
    refine nx_iload_n C0 1 dX5_judge_13 rfl ?_
    obtain ⟨g12, h⟩ := nguard h
    refine nx_aldS C0 g12 dX5_judge_14 ?_
    refine nx_iconst (v := 2) C0 dX5_judge_15 (by decide) ?_
    obtain ⟨r14, c13, h⟩ := nbind h
    refine nx_cVi (ci := 1) (n := 1) (As := [.int (2 : Int32)]) (st := []) C0 (mX1_refusal l D B hB (nSh_of g12) (2 : Int32) σ c13) gX5_judge_X1_refusal rfl rfl rfl ndX1_refusal ⟨Nat.le_of_ble_eq_true rfl, Nat.le_of_ble_eq_true rfl⟩ (by have := nSh_lt (nSh_of g12); omega) (nSh_e (nSh_of g12) _) rfl rfl rfl (Nat.le_of_ble_eq_true rfl) rfl dX5_judge_16 ?_
    refine nx_istore_n (i := 2) (y := r14) (lv' := [(2, .int r14), (0, .ref (na B 0)), (1, .int x1)]) C0 dX5_judge_19 rfl (by decide) rfl rfl ?_
    refine nx_iload_n C0 0 dX5_judge_20 rfl ?_
    refine nx_if_eq (tgt := 26) C0 dX5_judge_21 (by decide) (fun q => ?_) (fun q => ?_)
    · have h := nift q h
      refine nx_aload_n C0 1 dX5_judge_26 rfl ?_
      refine nx_gX5_shelves C0 hh0 hh7 dX5_judge_27 ?_
      refine nx_iload_n C0 2 dX5_judge_30 rfl ?_
      obtain ⟨g15, h⟩ := nguard h
      refine nx_aldS C0 g15 dX5_judge_31 ?_
      refine nx_astore_n (i := 3) (y := na B (29 + 2 * (x1).toNatClampNeg)) (lv' := [(3, .ref (na B (29 + 2 * (x1).toNatClampNeg))), (2, .int r14), (0, .ref (na B 0)), (1, .int x1)]) C0 dX5_judge_32 rfl (by decide) rfl rfl ?_
      refine nx_aload_n C0 2 dX5_judge_33 rfl ?_
      refine nx_gX5_mind C0 hh0 hh1 dX5_judge_34 ?_
      refine nx_aload_n C0 2 dX5_judge_37 rfl ?_
      refine nx_gX5_now C0 hh0 hh8 dX5_judge_38 ?_
      obtain ⟨r17, t18, c16, h⟩ := nbind2 h
      refine nx_cVv (ci := 4) (n := 1) (As := [.ref (na B 1)]) (st := []) C0 (mX4_become l D B hB nT10 nT1 σ c16) gX5_judge_X4_become rfl rfl rfl ndX4_become ⟨Nat.le_of_ble_eq_true rfl, Nat.le_of_ble_eq_true rfl⟩ (by have := nT_lt nT10; omega) (nT_e nT10 _) rfl rfl rfl (Nat.le_of_ble_eq_true rfl) rfl dX5_judge_41 ?_
      refine nx_iconst (v := 0) C0 dX5_judge_44 (by decide) ?_
      refine nx_istore (i := 4) (y := (0 : Int32)) (lv' := [(4, .int (0 : Int32)), (3, .ref (na B (29 + 2 * (x1).toNatClampNeg))), (2, .int r14), (0, .ref (na B 0)), (1, .int x1)]) C0 dX5_judge_45 (by decide) rfl rfl ?_
      refine nx_lv (lv' := [(0, .ref (na B 0)), (3, .ref (na B (29 + 2 * (x1).toNatClampNeg))), (4, .int (0 : Int32))]) [3, 1, 0] rfl ?_
      exact hfX5_judge_b47 4096 (29 + 2 * (x1).toNatClampNeg) (nSh_of g15) (0 : Int32) t18 h
    · have h := niff q h
      refine nx_iload_n C0 0 dX5_judge_24 rfl ?_
      exact nr_i2 C0 hr dX5_judge_25 h
  · have h := nift q h
    refine nx_iconst (v := -1) C0 dX5_judge_7 (by decide) ?_
    exact nr_i2 C0 hr dX5_judge_8 h
def rmX5_draw : Room := { frames := 0, cells := 0, slots := 0, locals := 0 }
theorem ndX5_draw : yX5_draw.cls = RX5 ∧ yX5_draw.cls ≠ "java/lang/invoke/MethodHandle" ∧ yX5_draw.cls ≠ "java/lang/invoke/VarHandle" ∧ (parseMethodDescriptor yX5_draw.desc).map (fun d => d.parameters.length) = some 1 := by decide +kernel
set_option maxRecDepth 100000 in
set_option maxHeartbeats 4000000 in
theorem mX5_draw (l : Launch) (D : va_G) (B : nBT) (hB : nInj B) (x1 : Int32) (σ : nS) {r : Int32} {σ1 : nS} (h : fX5_draw x1 σ = some (r, σ1)) : nMi l D B yX5_draw wsX5_draw rmX5_draw [.ref (na B 0), .int x1] σ r σ1 := by
  refine nmet (cc := cX5_draw) (maxL := 2) (ret := (some .int)) (own := RX5) (av := [.ref (na B 0), .int x1]) (nQi D B r σ1) hB (by decide) rfl rfl (Nat.le_of_ble_eq_true rfl) (fun p e s m args below meth c C0 hr => ?_)
  have hh0 : ∀ w ∈ wsX50, w ∈ wsX5_draw := by decide +kernel
  have hh1 := C0.2.2.2.2.1 (Cond.fieldLink RX5 254 "NotInTheCoin" "seed" "I") (by decide +kernel)
  have hh2 := C0.2.2.2.2.1 (Cond.constant RX5 348 (1103515245)) (by decide +kernel)
  have hh3 := C0.2.2.2.2.1 (Cond.constant RX5 349 (2147483647)) (by decide +kernel)
  have hh4 := C0.2.2.2.2.1 (Cond.constant RX5 350 (65536)) (by decide +kernel)
  refine nx_lv (lv' := [(0, .ref (na B 0)), (1, .int x1)]) [0, 1] rfl ?_
  rw [fX5_draw] at h
  refine nx_aload_n C0 0 dX5_draw_0 rfl ?_
  refine nx_aload_n C0 0 dX5_draw_1 rfl ?_
  refine nx_gX5_seed C0 hh0 hh1 dX5_draw_2 ?_
  refine nx_ldcw (v := 1103515245) C0 dX5_draw_5 hh2 ?_
  refine nx_imul C0 dX5_draw_8 ?_
  refine nx_sipush (v := 12345) C0 dX5_draw_9 (by decide) ?_
  refine nx_iadd C0 dX5_draw_12 ?_
  obtain ⟨t1, et1, h⟩ := nlet h
  refine nx_pX5_seed C0 hh0 hh1 dX5_draw_13 et1 ?_
  refine nx_iload_n C0 1 dX5_draw_16 rfl ?_
  refine nx_if_le (tgt := 37) C0 dX5_draw_17 (by decide) (fun q => ?_) (fun q => ?_)
  · have h := nift q h
    refine nx_iconst (v := 0) C0 dX5_draw_37 (by decide) ?_
    exact nr_i2 C0 hr dX5_draw_38 h
  · have h := niff q h
    refine nx_aload_n C0 0 dX5_draw_20 rfl ?_
    refine nx_gX5_seed C0 hh0 hh1 dX5_draw_21 ?_
    refine nx_ldcw (v := 2147483647) C0 dX5_draw_24 hh3 ?_
    refine nx_iand C0 dX5_draw_27 ?_
    refine nx_ldcw (v := 65536) C0 dX5_draw_28 hh4 ?_
    refine nx_idiv C0 dX5_draw_31 (by decide) ?_
    refine nx_iload_n C0 1 dX5_draw_32 rfl ?_
    obtain ⟨g2, h⟩ := nguard h
    refine nx_irem C0 dX5_draw_33 g2 ?_
    refine nx_goto (tgt := 38) C0 dX5_draw_34 (by decide) ?_
    exact nr_i2 C0 hr dX5_draw_38 h
def rmX5_drawTown : Room := { frames := 2, cells := 0, slots := 0, locals := 61 }
theorem ndX5_drawTown : yX5_drawTown.cls = RX5 ∧ yX5_drawTown.cls ≠ "java/lang/invoke/MethodHandle" ∧ yX5_drawTown.cls ≠ "java/lang/invoke/VarHandle" ∧ (parseMethodDescriptor yX5_drawTown.desc).map (fun d => d.parameters.length) = some 0 := by decide +kernel
set_option maxRecDepth 100000 in
set_option maxHeartbeats 4000000 in
theorem mX5_drawTown (l : Launch) (D : va_G) (B : nBT) (hB : nInj B)  (σ : nS)  {σ1 : nS} (h : fX5_drawTown σ = some ((), σ1)) : nMv l D B yX5_drawTown wsX5_drawTown rmX5_drawTown [.ref (na B 0)] σ σ1 := by
  refine nmet (cc := cX5_drawTown) (maxL := 2) (ret := none) (own := RX5) (av := [.ref (na B 0)]) (nQv D B σ1) hB (by decide) rfl rfl (Nat.le_of_ble_eq_true rfl) (fun p e s m args below meth c C0 hr => ?_)
  have hh0 : ∀ w ∈ wsX50, w ∈ wsX5_drawTown := by decide +kernel
  have hh1 := C0.2.2.2.2.1 (Cond.fieldLink RX5 16 "NotInTheCoin" "mind" "LNotInTheCoin$Town;") (by decide +kernel)
  have hh2 : ∀ w ∈ wsX40, w ∈ wsX5_drawTown := by decide +kernel
  have hh3 := C0.2.2.2.2.1 (Cond.fieldLink RX5 185 "NotInTheCoin$Town" "people" "I") (by decide +kernel)
  have hh4 := C0.2.2.2.2.1 (Cond.fieldLink RX5 102 "NotInTheCoin$Town" "tasteOf" "[I") (by decide +kernel)
  have hh5 := C0.2.2.2.2.1 (Cond.fieldLink RX5 230 "NotInTheCoin$Town" "goods" "I") (by decide +kernel)
  have hh6 := C0.2.2.2.2.1 (Cond.fieldLink RX5 93 "NotInTheCoin$Town" "ownerOf" "[I") (by decide +kernel)
  have hh7 := C0.2.2.2.2.1 (Cond.fieldLink RX5 10 "NotInTheCoin" "now" "LNotInTheCoin$Town;") (by decide +kernel)
  have hfX5_drawTown_b52 : ∀  (n : Nat) (a1 : Int32) (σ : nS) (h : fX5_drawTown_b52  n a1 σ = some ((), σ1)), nJ p l e rmX5_drawTown s m args below meth c 0 0 (MQ below (nQv D B σ1 s.heap.size) args s 0 0 (nA B s.heap.size)) D B 2 52 [(0, .ref (na B 0)), (1, .int a1)] [] σ := by
    intro  n
    induction n with
    | zero => intro a1 σ h; cases h
    | succ n ih =>
        intro a1 σ h
        rw [fX5_drawTown_b52] at h
        refine nx_iload_n C0 1 dX5_drawTown_52 rfl ?_
        refine nx_aload_n C0 0 dX5_drawTown_53 rfl ?_
        refine nx_gX5_mind C0 hh0 hh1 dX5_drawTown_54 ?_
        refine nx_gX4_people C0 nT10 hh2 hh3 dX5_drawTown_57 ?_
        refine nx_icmp_ge (tgt := 84) C0 dX5_drawTown_60 (by decide) (fun q => ?_) (fun q => ?_)
        · have h := nift q h
          exact nr_v2 C0 hr dX5_drawTown_84 h
        · have h := niff q h
          refine nx_aload_n C0 0 dX5_drawTown_63 rfl ?_
          refine nx_gX5_mind C0 hh0 hh1 dX5_drawTown_64 ?_
          refine nx_gX4_tasteOf C0 nT10 hh2 hh4 dX5_drawTown_67 ?_
          refine nx_iload_n C0 1 dX5_drawTown_70 rfl ?_
          refine nx_aload_n C0 0 dX5_drawTown_71 rfl ?_
          refine nx_bipush (v := 10) C0 dX5_drawTown_72 (by decide) ?_
          obtain ⟨r2, t3, c1, h⟩ := nbind2 h
          refine nx_cVi (ci := 5) (n := 1) (As := [.int (10 : Int32)]) (st := [.int a1, .ref (na B (10 + 4))]) C0 (mX5_draw l D B hB (10 : Int32) σ c1) gX5_drawTown_X5_draw rfl rfl rfl ndX5_draw ⟨Nat.le_of_ble_eq_true rfl, Nat.le_of_ble_eq_true rfl⟩ (by decide) rfl rfl rfl rfl (Nat.le_of_ble_eq_true rfl) rfl dX5_drawTown_74 ?_
          obtain ⟨g4, h⟩ := nguard h
          obtain ⟨t5, et5, h⟩ := nlet h
          refine nx_iast C0 (nT_a4 nT10) g4 dX5_drawTown_77 et5 ?_
          obtain ⟨v6, ev6, h⟩ := nlet h
          refine nx_iinc (v := v6) (lv' := [(1, .int v6), (0, .ref (na B 0))]) C0 1 dX5_drawTown_78 rfl ev6 (by decide) rfl ?_
          refine nx_goto (tgt := 52) C0 dX5_drawTown_81 (by decide) ?_
          refine nx_lv (lv' := [(0, .ref (na B 0)), (1, .int v6)]) [1, 0] rfl ?_
          exact ih v6 t5 h
  have hfX5_drawTown_b13 : ∀  (n : Nat) (a1 : Int32) (σ : nS) (h : fX5_drawTown_b13  n a1 σ = some ((), σ1)), nJ p l e rmX5_drawTown s m args below meth c 0 0 (MQ below (nQv D B σ1 s.heap.size) args s 0 0 (nA B s.heap.size)) D B 2 13 [(0, .ref (na B 0)), (1, .int a1)] [] σ := by
    intro  n
    induction n with
    | zero => intro a1 σ h; cases h
    | succ n ih =>
        intro a1 σ h
        rw [fX5_drawTown_b13] at h
        refine nx_iload_n C0 1 dX5_drawTown_13 rfl ?_
        refine nx_aload_n C0 0 dX5_drawTown_14 rfl ?_
        refine nx_gX5_mind C0 hh0 hh1 dX5_drawTown_15 ?_
        refine nx_gX4_goods C0 nT10 hh2 hh5 dX5_drawTown_18 ?_
        refine nx_icmp_ge (tgt := 50) C0 dX5_drawTown_21 (by decide) (fun q => ?_) (fun q => ?_)
        · have h := nift q h
          refine nx_iconst (v := 0) C0 dX5_drawTown_50 (by decide) ?_
          refine nx_istore_n (i := 1) (y := (0 : Int32)) (lv' := [(1, .int (0 : Int32)), (0, .ref (na B 0))]) C0 dX5_drawTown_51 rfl (by decide) rfl rfl ?_
          refine nx_lv (lv' := [(0, .ref (na B 0)), (1, .int (0 : Int32))]) [1, 0] rfl ?_
          exact hfX5_drawTown_b52 4096 (0 : Int32) σ h
        · have h := niff q h
          refine nx_aload_n C0 0 dX5_drawTown_24 rfl ?_
          refine nx_gX5_mind C0 hh0 hh1 dX5_drawTown_25 ?_
          refine nx_gX4_ownerOf C0 nT10 hh2 hh6 dX5_drawTown_28 ?_
          refine nx_iload_n C0 1 dX5_drawTown_31 rfl ?_
          refine nx_aload_n C0 0 dX5_drawTown_32 rfl ?_
          refine nx_aload_n C0 0 dX5_drawTown_33 rfl ?_
          refine nx_gX5_mind C0 hh0 hh1 dX5_drawTown_34 ?_
          refine nx_gX4_people C0 nT10 hh2 hh3 dX5_drawTown_37 ?_
          obtain ⟨r8, t9, c7, h⟩ := nbind2 h
          refine nx_cVi (ci := 5) (n := 1) (As := [.int (σ 10 5)]) (st := [.int a1, .ref (na B (10 + 3))]) C0 (mX5_draw l D B hB (σ 10 5) σ c7) gX5_drawTown_X5_draw rfl rfl rfl ndX5_draw ⟨Nat.le_of_ble_eq_true rfl, Nat.le_of_ble_eq_true rfl⟩ (by decide) rfl rfl rfl rfl (Nat.le_of_ble_eq_true rfl) rfl dX5_drawTown_40 ?_
          obtain ⟨g10, h⟩ := nguard h
          obtain ⟨t11, et11, h⟩ := nlet h
          refine nx_iast C0 (nT_a3 nT10) g10 dX5_drawTown_43 et11 ?_
          obtain ⟨v12, ev12, h⟩ := nlet h
          refine nx_iinc (v := v12) (lv' := [(1, .int v12), (0, .ref (na B 0))]) C0 1 dX5_drawTown_44 rfl ev12 (by decide) rfl ?_
          refine nx_goto (tgt := 13) C0 dX5_drawTown_47 (by decide) ?_
          refine nx_lv (lv' := [(0, .ref (na B 0)), (1, .int v12)]) [1, 0] rfl ?_
          exact ih v12 t11 h
  refine nx_lv (lv' := [(0, .ref (na B 0))]) [0] rfl ?_
  rw [fX5_drawTown] at h
  refine nx_aload_n C0 0 dX5_drawTown_0 rfl ?_
  refine nx_gX5_mind C0 hh0 hh1 dX5_drawTown_1 ?_
  refine nx_aload_n C0 0 dX5_drawTown_4 rfl ?_
  refine nx_gX5_now C0 hh0 hh7 dX5_drawTown_5 ?_
  obtain ⟨r14, t15, c13, h⟩ := nbind2 h
  refine nx_cVv (ci := 4) (n := 1) (As := [.ref (na B 1)]) (st := []) C0 (mX4_become l D B hB nT10 nT1 σ c13) gX5_drawTown_X4_become rfl rfl rfl ndX4_become ⟨Nat.le_of_ble_eq_true rfl, Nat.le_of_ble_eq_true rfl⟩ (by have := nT_lt nT10; omega) (nT_e nT10 _) rfl rfl rfl (Nat.le_of_ble_eq_true rfl) rfl dX5_drawTown_8 ?_
  refine nx_iconst (v := 0) C0 dX5_drawTown_11 (by decide) ?_
  refine nx_istore_n (i := 1) (y := (0 : Int32)) (lv' := [(1, .int (0 : Int32)), (0, .ref (na B 0))]) C0 dX5_drawTown_12 rfl (by decide) rfl rfl ?_
  refine nx_lv (lv' := [(0, .ref (na B 0)), (1, .int (0 : Int32))]) [1, 0] rfl ?_
  exact hfX5_drawTown_b13 4096 (0 : Int32) t15 h
def rmX5_towns : Room := { frames := 4, cells := 0, slots := 0, locals := 99 }
theorem ndX5_towns : yX5_towns.cls = RX5 ∧ yX5_towns.cls ≠ "java/lang/invoke/MethodHandle" ∧ yX5_towns.cls ≠ "java/lang/invoke/VarHandle" ∧ (parseMethodDescriptor yX5_towns.desc).map (fun d => d.parameters.length) = some 3 := by decide +kernel
set_option maxRecDepth 100000 in
set_option maxHeartbeats 4000000 in
theorem mX5_towns (l : Launch) (D : va_G) (B : nBT) (hB : nInj B) (x1 : Int32) (x2 : Int32) (x3 : Int32) (σ : nS) {r : Int32} {σ1 : nS} (h : fX5_towns x1 x2 x3 σ = some (r, σ1)) : nMi l D B yX5_towns wsX5_towns rmX5_towns [.ref (na B 0), .int x1, .int x2, .int x3] σ r σ1 := by
  refine nmet (cc := cX5_towns) (maxL := 6) (ret := (some .int)) (own := RX5) (av := [.ref (na B 0), .int x1, .int x2, .int x3]) (nQi D B r σ1) hB (by decide) rfl rfl (Nat.le_of_ble_eq_true rfl) (fun p e s m args below meth c C0 hr => ?_)
  have hh0 : ∀ w ∈ wsX50, w ∈ wsX5_towns := by decide +kernel
  have hh1 := C0.2.2.2.2.1 (Cond.fieldLink RX5 16 "NotInTheCoin" "mind" "LNotInTheCoin$Town;") (by decide +kernel)
  have hh2 := C0.2.2.2.2.1 (Cond.fieldLink RX5 10 "NotInTheCoin" "now" "LNotInTheCoin$Town;") (by decide +kernel)
  have hh3 : ∀ w ∈ wsX40, w ∈ wsX5_towns := by decide +kernel
  have hh4 := C0.2.2.2.2.1 (Cond.fieldLink RX5 185 "NotInTheCoin$Town" "people" "I") (by decide +kernel)
  have hh5 := C0.2.2.2.2.1 (Cond.fieldLink RX5 254 "NotInTheCoin" "seed" "I") (by decide +kernel)
  have hfX5_towns_b46 : ∀  (n : Nat) (a1 : Int32) (a3 : Int32) (a4 : Int32) (a5 : Int32) (σ : nS) (h : fX5_towns_b46  n a1 a3 a4 a5 σ = some (r, σ1)), nJ p l e rmX5_towns s m args below meth c 0 0 (MQ below (nQi D B r σ1 s.heap.size) args s 0 0 (nA B s.heap.size)) D B 6 46 [(0, .ref (na B 0)), (1, .int a1), (3, .int a3), (4, .int a4), (5, .int a5)] [] σ := by
    intro  n
    induction n with
    | zero => intro a1 a3 a4 a5 σ h; cases h
    | succ n ih =>
        intro a1 a3 a4 a5 σ h
        rw [fX5_towns_b46] at h
        refine nx_iload C0 4 dX5_towns_46 rfl ?_
        refine nx_iload_n C0 1 dX5_towns_48 rfl ?_
        refine nx_icmp_ge (tgt := 88) C0 dX5_towns_49 (by decide) (fun q => ?_) (fun q => ?_)
        · have h := nift q h
          refine nx_iload C0 3 dX5_towns_88 rfl ?_
          exact nr_i2 C0 hr dX5_towns_90 h
        · have h := niff q h
          refine nx_aload_n C0 0 dX5_towns_52 rfl ?_
          obtain ⟨r2, t3, c1, h⟩ := nbind2 h
          refine nx_cVv (ci := 5) (n := 0) (As := []) (st := []) C0 (mX5_drawTown l D B hB σ c1) gX5_towns_X5_drawTown rfl rfl rfl ndX5_drawTown ⟨Nat.le_of_ble_eq_true rfl, Nat.le_of_ble_eq_true rfl⟩ (by decide) rfl rfl rfl rfl (Nat.le_of_ble_eq_true rfl) rfl dX5_towns_53 ?_
          refine nx_iload C0 3 dX5_towns_56 rfl ?_
          refine nx_iload_n C0 2 dX5_towns_58 rfl ?_
          refine nx_if_ne (tgt := 72) C0 dX5_towns_59 (by decide) (fun q => ?_) (fun q => ?_)
          · have h := niff q h
            refine nx_aload_n C0 0 dX5_towns_72 rfl ?_
            refine nx_gX5_mind C0 hh0 hh1 dX5_towns_73 ?_
            obtain ⟨r5, c4, h⟩ := nbind h
            refine nx_cVi (ci := 4) (n := 0) (As := []) (st := [.int a4]) C0 (mX4_allWealth l D B hB nT10 t3 c4) gX5_towns_X4_allWealth rfl rfl rfl ndX4_allWealth ⟨Nat.le_of_ble_eq_true rfl, Nat.le_of_ble_eq_true rfl⟩ (by have := nT_lt nT10; omega) (nT_e nT10 _) rfl rfl rfl (Nat.le_of_ble_eq_true rfl) rfl dX5_towns_76 ?_
            refine nx_iadd C0 dX5_towns_79 ?_
            obtain ⟨v6, ev6, h⟩ := nlet h
            refine nx_istore (i := 4) (y := v6) (lv' := [(4, .int v6), (0, .ref (na B 0)), (1, .int a1), (3, .int a3), (5, .int a5)]) C0 dX5_towns_80 (by decide) ev6 rfl ?_
            obtain ⟨v7, ev7, h⟩ := nlet h
            refine nx_iinc (v := v7) (lv' := [(5, .int v7), (4, .int v6), (0, .ref (na B 0)), (1, .int a1), (3, .int a3)]) C0 4 dX5_towns_82 rfl ev7 (by decide) rfl ?_
            refine nx_goto (tgt := 46) C0 dX5_towns_85 (by decide) ?_
            refine nx_lv (lv' := [(0, .ref (na B 0)), (1, .int a1), (3, .int a3), (4, .int v6), (5, .int v7)]) [2, 3, 4, 1, 0] rfl ?_
            exact ih a1 a3 v6 v7 t3 h
          · have h := nift q h
            refine nx_aload_n C0 0 dX5_towns_62 rfl ?_
            refine nx_gX5_mind C0 hh0 hh1 dX5_towns_63 ?_
            obtain ⟨r9, c8, h⟩ := nbind h
            refine nx_cVi (ci := 4) (n := 0) (As := []) (st := [.int a4]) C0 (mX4_allQuarrels l D B hB nT10 t3 c8) gX5_towns_X4_allQuarrels rfl rfl rfl ndX4_allQuarrels ⟨Nat.le_of_ble_eq_true rfl, Nat.le_of_ble_eq_true rfl⟩ (by have := nT_lt nT10; omega) (nT_e nT10 _) rfl rfl rfl (Nat.le_of_ble_eq_true rfl) rfl dX5_towns_66 ?_
            refine nx_goto (tgt := 79) C0 dX5_towns_69 (by decide) ?_
            refine nx_iadd C0 dX5_towns_79 ?_
            obtain ⟨v10, ev10, h⟩ := nlet h
            refine nx_istore (i := 4) (y := v10) (lv' := [(4, .int v10), (0, .ref (na B 0)), (1, .int a1), (3, .int a3), (5, .int a5)]) C0 dX5_towns_80 (by decide) ev10 rfl ?_
            obtain ⟨v11, ev11, h⟩ := nlet h
            refine nx_iinc (v := v11) (lv' := [(5, .int v11), (4, .int v10), (0, .ref (na B 0)), (1, .int a1), (3, .int a3)]) C0 4 dX5_towns_82 rfl ev11 (by decide) rfl ?_
            refine nx_goto (tgt := 46) C0 dX5_towns_85 (by decide) ?_
            refine nx_lv (lv' := [(0, .ref (na B 0)), (1, .int a1), (3, .int a3), (4, .int v10), (5, .int v11)]) [2, 3, 4, 1, 0] rfl ?_
            exact ih a1 a3 v10 v11 t3 h
  refine nx_lv (lv' := [(0, .ref (na B 0)), (1, .int x1), (2, .int x2), (3, .int x3)]) [0, 1, 2, 3] rfl ?_
  rw [fX5_towns] at h
  refine nx_iload_n C0 1 dX5_towns_0 rfl ?_
  refine nx_iconst (v := 1) C0 dX5_towns_1 (by decide) ?_
  refine nx_icmp_lt (tgt := 20) C0 dX5_towns_2 (by decide) (fun q => ?_) (fun q => ?_)
  · have h := nift q h
    refine nx_iconst (v := -1) C0 dX5_towns_20 (by decide) ?_
    exact nr_i2 C0 hr dX5_towns_21 h
  · have h := niff q h
    refine nx_iload_n C0 1 dX5_towns_5 rfl ?_
    refine nx_bipush (v := 20) C0 dX5_towns_6 (by decide) ?_
    refine nx_icmp_gt (tgt := 20) C0 dX5_towns_8 (by decide) (fun q => ?_) (fun q => ?_)
    · have h := nift q h
      refine nx_iconst (v := -1) C0 dX5_towns_20 (by decide) ?_
      exact nr_i2 C0 hr dX5_towns_21 h
    · have h := niff q h
      refine nx_iload_n C0 3 dX5_towns_11 rfl ?_
      refine nx_if_lt (tgt := 20) C0 dX5_towns_12 (by decide) (fun q => ?_) (fun q => ?_)
      · have h := nift q h
        refine nx_iconst (v := -1) C0 dX5_towns_20 (by decide) ?_
        exact nr_i2 C0 hr dX5_towns_21 h
      · have h := niff q h
        refine nx_iload_n C0 3 dX5_towns_15 rfl ?_
        refine nx_iconst (v := 1) C0 dX5_towns_16 (by decide) ?_
        refine nx_icmp_le (tgt := 22) C0 dX5_towns_17 (by decide) (fun q => ?_) (fun q => ?_)
        · have h := nift q h
          refine nx_aload_n C0 0 dX5_towns_22 rfl ?_
          refine nx_gX5_now C0 hh0 hh2 dX5_towns_23 ?_
          refine nx_gX4_people C0 nT1 hh3 hh4 dX5_towns_26 ?_
          refine nx_if_ne (tgt := 35) C0 dX5_towns_29 (by decide) (fun q => ?_) (fun q => ?_)
          · have h := niff q h
            refine nx_aload_n C0 0 dX5_towns_35 rfl ?_
            refine nx_iload_n C0 2 dX5_towns_36 rfl ?_
            obtain ⟨t12, et12, h⟩ := nlet h
            refine nx_pX5_seed C0 hh0 hh5 dX5_towns_37 et12 ?_
            refine nx_iconst (v := 0) C0 dX5_towns_40 (by decide) ?_
            refine nx_istore (i := 4) (y := (0 : Int32)) (lv' := [(4, .int (0 : Int32)), (0, .ref (na B 0)), (1, .int x1), (2, .int x2), (3, .int x3)]) C0 dX5_towns_41 (by decide) rfl rfl ?_
            refine nx_iconst (v := 0) C0 dX5_towns_43 (by decide) ?_
            refine nx_istore (i := 5) (y := (0 : Int32)) (lv' := [(5, .int (0 : Int32)), (4, .int (0 : Int32)), (0, .ref (na B 0)), (1, .int x1), (2, .int x2), (3, .int x3)]) C0 dX5_towns_44 (by decide) rfl rfl ?_
            refine nx_lv (lv' := [(0, .ref (na B 0)), (1, .int x1), (3, .int x3), (4, .int (0 : Int32)), (5, .int (0 : Int32))]) [2, 3, 5, 1, 0] rfl ?_
            exact hfX5_towns_b46 4096 x1 x3 (0 : Int32) (0 : Int32) t12 h
          · have h := nift q h
            refine nx_bipush (v := -3) C0 dX5_towns_32 (by decide) ?_
            exact nr_i2 C0 hr dX5_towns_34 h
        · have h := niff q h
          refine nx_iconst (v := -1) C0 dX5_towns_20 (by decide) ?_
          exact nr_i2 C0 hr dX5_towns_21 h
def rmX5_image : Room := { frames := 2, cells := 0, slots := 0, locals := 61 }
theorem ndX5_image : yX5_image.cls = RX5 ∧ yX5_image.cls ≠ "java/lang/invoke/MethodHandle" ∧ yX5_image.cls ≠ "java/lang/invoke/VarHandle" ∧ (parseMethodDescriptor yX5_image.desc).map (fun d => d.parameters.length) = some 0 := by decide +kernel
set_option maxRecDepth 100000 in
set_option maxHeartbeats 4000000 in
theorem mX5_image (l : Launch) (D : va_G) (B : nBT) (hB : nInj B)  (σ : nS) {r : Int32} {σ1 : nS} (h : fX5_image σ = some (r, σ1)) : nMi l D B yX5_image wsX5_image rmX5_image [.ref (na B 0)] σ r σ1 := by
  refine nmet (cc := cX5_image) (maxL := 1) (ret := (some .int)) (own := RX5) (av := [.ref (na B 0)]) (nQi D B r σ1) hB (by decide) rfl rfl (Nat.le_of_ble_eq_true rfl) (fun p e s m args below meth c C0 hr => ?_)
  have hh0 : ∀ w ∈ wsX50, w ∈ wsX5_image := by decide +kernel
  have hh1 := C0.2.2.2.2.1 (Cond.fieldLink RX5 19 "NotInTheCoin" "kept" "LNotInTheCoin$Town;") (by decide +kernel)
  have hh2 := C0.2.2.2.2.1 (Cond.fieldLink RX5 10 "NotInTheCoin" "now" "LNotInTheCoin$Town;") (by decide +kernel)
  have hh3 := C0.2.2.2.2.1 (Cond.fieldLink RX5 267 "NotInTheCoin" "isKept" "Z") (by decide +kernel)
  have hh4 : ∀ w ∈ wsX40, w ∈ wsX5_image := by decide +kernel
  have hh5 := C0.2.2.2.2.1 (Cond.fieldLink RX5 271 "NotInTheCoin$Town" "week" "I") (by decide +kernel)
  refine nx_lv (lv' := [(0, .ref (na B 0))]) [0] rfl ?_
  rw [fX5_image] at h
  refine nx_aload_n C0 0 dX5_image_0 rfl ?_
  refine nx_gX5_kept C0 hh0 hh1 dX5_image_1 ?_
  refine nx_aload_n C0 0 dX5_image_4 rfl ?_
  refine nx_gX5_now C0 hh0 hh2 dX5_image_5 ?_
  obtain ⟨r2, t3, c1, h⟩ := nbind2 h
  refine nx_cVv (ci := 4) (n := 1) (As := [.ref (na B 1)]) (st := []) C0 (mX4_become l D B hB nT19 nT1 σ c1) gX5_image_X4_become rfl rfl rfl ndX4_become ⟨Nat.le_of_ble_eq_true rfl, Nat.le_of_ble_eq_true rfl⟩ (by have := nT_lt nT19; omega) (nT_e nT19 _) rfl rfl rfl (Nat.le_of_ble_eq_true rfl) rfl dX5_image_8 ?_
  refine nx_aload_n C0 0 dX5_image_11 rfl ?_
  refine nx_iconst (v := 1) C0 dX5_image_12 (by decide) ?_
  obtain ⟨t4, et4, h⟩ := nlet h
  refine nx_pX5_isKept C0 rfl rfl hh0 hh3 dX5_image_13 et4 ?_
  refine nx_aload_n C0 0 dX5_image_16 rfl ?_
  refine nx_gX5_now C0 hh0 hh2 dX5_image_17 ?_
  refine nx_gX4_week C0 nT1 hh4 hh5 dX5_image_20 ?_
  exact nr_i2 C0 hr dX5_image_23 h
def rmX5_restore : Room := { frames := 2, cells := 0, slots := 0, locals := 61 }
theorem ndX5_restore : yX5_restore.cls = RX5 ∧ yX5_restore.cls ≠ "java/lang/invoke/MethodHandle" ∧ yX5_restore.cls ≠ "java/lang/invoke/VarHandle" ∧ (parseMethodDescriptor yX5_restore.desc).map (fun d => d.parameters.length) = some 0 := by decide +kernel
set_option maxRecDepth 100000 in
set_option maxHeartbeats 4000000 in
theorem mX5_restore (l : Launch) (D : va_G) (B : nBT) (hB : nInj B)  (σ : nS) {r : Int32} {σ1 : nS} (h : fX5_restore σ = some (r, σ1)) : nMi l D B yX5_restore wsX5_restore rmX5_restore [.ref (na B 0)] σ r σ1 := by
  refine nmet (cc := cX5_restore) (maxL := 1) (ret := (some .int)) (own := RX5) (av := [.ref (na B 0)]) (nQi D B r σ1) hB (by decide) rfl rfl (Nat.le_of_ble_eq_true rfl) (fun p e s m args below meth c C0 hr => ?_)
  have hh0 : ∀ w ∈ wsX50, w ∈ wsX5_restore := by decide +kernel
  have hh1 := C0.2.2.2.2.1 (Cond.fieldLink RX5 267 "NotInTheCoin" "isKept" "Z") (by decide +kernel)
  have hh2 := C0.2.2.2.2.1 (Cond.fieldLink RX5 10 "NotInTheCoin" "now" "LNotInTheCoin$Town;") (by decide +kernel)
  have hh3 := C0.2.2.2.2.1 (Cond.fieldLink RX5 19 "NotInTheCoin" "kept" "LNotInTheCoin$Town;") (by decide +kernel)
  have hh4 : ∀ w ∈ wsX40, w ∈ wsX5_restore := by decide +kernel
  have hh5 := C0.2.2.2.2.1 (Cond.fieldLink RX5 271 "NotInTheCoin$Town" "week" "I") (by decide +kernel)
  refine nx_lv (lv' := [(0, .ref (na B 0))]) [0] rfl ?_
  rw [fX5_restore] at h
  refine nx_aload_n C0 0 dX5_restore_0 rfl ?_
  refine nx_gX5_isKept C0 hh0 hh1 dX5_restore_1 ?_
  refine nx_if_ne (tgt := 10) C0 dX5_restore_4 (by decide) (fun q => ?_) (fun q => ?_)
  · have h := niff q h
    refine nx_aload_n C0 0 dX5_restore_10 rfl ?_
    refine nx_gX5_now C0 hh0 hh2 dX5_restore_11 ?_
    refine nx_aload_n C0 0 dX5_restore_14 rfl ?_
    refine nx_gX5_kept C0 hh0 hh3 dX5_restore_15 ?_
    obtain ⟨r2, t3, c1, h⟩ := nbind2 h
    refine nx_cVv (ci := 4) (n := 1) (As := [.ref (na B 19)]) (st := []) C0 (mX4_become l D B hB nT1 nT19 σ c1) gX5_restore_X4_become rfl rfl rfl ndX4_become ⟨Nat.le_of_ble_eq_true rfl, Nat.le_of_ble_eq_true rfl⟩ (by have := nT_lt nT1; omega) (nT_e nT1 _) rfl rfl rfl (Nat.le_of_ble_eq_true rfl) rfl dX5_restore_18 ?_
    refine nx_aload_n C0 0 dX5_restore_21 rfl ?_
    refine nx_gX5_now C0 hh0 hh2 dX5_restore_22 ?_
    refine nx_gX4_week C0 nT1 hh4 hh5 dX5_restore_25 ?_
    exact nr_i2 C0 hr dX5_restore_28 h
  · have h := nift q h
    refine nx_bipush (v := -3) C0 dX5_restore_7 (by decide) ?_
    exact nr_i2 C0 hr dX5_restore_9 h
def rmX5_count : Room := { frames := 4, cells := 0, slots := 0, locals := 95 }
theorem ndX5_count : yX5_count.cls = RX5 ∧ yX5_count.cls ≠ "java/lang/invoke/MethodHandle" ∧ yX5_count.cls ≠ "java/lang/invoke/VarHandle" ∧ (parseMethodDescriptor yX5_count.desc).map (fun d => d.parameters.length) = some 1 := by decide +kernel
set_option maxRecDepth 100000 in
set_option maxHeartbeats 4000000 in
theorem mX5_count (l : Launch) (D : va_G) (B : nBT) (hB : nInj B) (x1 : Int32) (σ : nS) {r : Int32}  (h : fX5_count x1 σ = some r) : nMi l D B yX5_count wsX5_count rmX5_count [.ref (na B 0), .int x1] σ r σ := by
  refine nmet (cc := cX5_count) (maxL := 2) (ret := (some .int)) (own := RX5) (av := [.ref (na B 0), .int x1]) (nQi D B r σ) hB (by decide) rfl rfl (Nat.le_of_ble_eq_true rfl) (fun p e s m args below meth c C0 hr => ?_)
  have hh0 : ∀ w ∈ wsX50, w ∈ wsX5_count := by decide +kernel
  have hh1 := C0.2.2.2.2.1 (Cond.fieldLink RX5 10 "NotInTheCoin" "now" "LNotInTheCoin$Town;") (by decide +kernel)
  have hh2 : ∀ w ∈ wsX40, w ∈ wsX5_count := by decide +kernel
  have hh3 := C0.2.2.2.2.1 (Cond.fieldLink RX5 230 "NotInTheCoin$Town" "goods" "I") (by decide +kernel)
  have hh4 := C0.2.2.2.2.1 (Cond.fieldLink RX5 185 "NotInTheCoin$Town" "people" "I") (by decide +kernel)
  have hh5 := C0.2.2.2.2.1 (Cond.fieldLink RX5 274 "NotInTheCoin$Town" "loans" "I") (by decide +kernel)
  have hh6 := C0.2.2.2.2.1 (Cond.fieldLink RX5 123 "NotInTheCoin$Town" "open" "I") (by decide +kernel)
  have hh7 := C0.2.2.2.2.1 (Cond.fieldLink RX5 271 "NotInTheCoin$Town" "week" "I") (by decide +kernel)
  refine nx_lv (lv' := [(0, .ref (na B 0)), (1, .int x1)]) [0, 1] rfl ?_
  rw [fX5_count] at h
  refine nx_iload_n C0 1 dX5_count_0 rfl ?_
  by_cases q1 : x1 = 0
  · have h := nift q1 h
    refine nx_tabIn (tgt := 44) C0 0 dX5_count_1 (by rw [q1]; rfl) (by decide) (by decide) rfl (by decide) ?_
    refine nx_aload_n C0 0 dX5_count_44 rfl ?_
    refine nx_gX5_now C0 hh0 hh1 dX5_count_45 ?_
    refine nx_gX4_goods C0 nT1 hh2 hh3 dX5_count_48 ?_
    exact nr_i C0 hr dX5_count_51 h
  have h := niff q1 h
  by_cases q2 : x1 = 1
  · have h := nift q2 h
    refine nx_tabIn (tgt := 52) C0 1 dX5_count_1 (by rw [q2]; rfl) (by decide) (by decide) rfl (by decide) ?_
    refine nx_aload_n C0 0 dX5_count_52 rfl ?_
    refine nx_gX5_now C0 hh0 hh1 dX5_count_53 ?_
    refine nx_gX4_people C0 nT1 hh2 hh4 dX5_count_56 ?_
    exact nr_i C0 hr dX5_count_59 h
  have h := niff q2 h
  by_cases q3 : x1 = 2
  · have h := nift q3 h
    refine nx_tabIn (tgt := 60) C0 2 dX5_count_1 (by rw [q3]; rfl) (by decide) (by decide) rfl (by decide) ?_
    refine nx_aload_n C0 0 dX5_count_60 rfl ?_
    refine nx_gX5_now C0 hh0 hh1 dX5_count_61 ?_
    refine nx_gX4_loans C0 nT1 hh2 hh5 dX5_count_64 ?_
    exact nr_i C0 hr dX5_count_67 h
  have h := niff q3 h
  by_cases q4 : x1 = 3
  · have h := nift q4 h
    refine nx_tabIn (tgt := 68) C0 3 dX5_count_1 (by rw [q4]; rfl) (by decide) (by decide) rfl (by decide) ?_
    refine nx_aload_n C0 0 dX5_count_68 rfl ?_
    refine nx_gX5_now C0 hh0 hh1 dX5_count_69 ?_
    refine nx_gX4_open C0 nT1 hh2 hh6 dX5_count_72 ?_
    exact nr_i C0 hr dX5_count_75 h
  have h := niff q4 h
  by_cases q5 : x1 = 4
  · have h := nift q5 h
    refine nx_tabIn (tgt := 76) C0 4 dX5_count_1 (by rw [q5]; rfl) (by decide) (by decide) rfl (by decide) ?_
    refine nx_aload_n C0 0 dX5_count_76 rfl ?_
    refine nx_gX5_now C0 hh0 hh1 dX5_count_77 ?_
    refine nx_gX4_week C0 nT1 hh2 hh7 dX5_count_80 ?_
    exact nr_i C0 hr dX5_count_83 h
  have h := niff q5 h
  by_cases q8 : x1 = 5
  · have h := nift q8 h
    refine nx_tabIn (tgt := 84) C0 5 dX5_count_1 (by rw [q8]; rfl) (by decide) (by decide) rfl (by decide) ?_
    refine nx_aload_n C0 0 dX5_count_84 rfl ?_
    refine nx_gX5_now C0 hh0 hh1 dX5_count_85 ?_
    obtain ⟨r7, c6, h⟩ := nbind h
    refine nx_cVi (ci := 4) (n := 0) (As := []) (st := []) C0 (mX4_classes l D B hB nT1 σ c6) gX5_count_X4_classes rfl rfl rfl ndX4_classes ⟨Nat.le_of_ble_eq_true rfl, Nat.le_of_ble_eq_true rfl⟩ (by have := nT_lt nT1; omega) (nT_e nT1 _) rfl rfl rfl (Nat.le_of_ble_eq_true rfl) rfl dX5_count_88 ?_
    exact nr_i C0 hr dX5_count_91 h
  have h := niff q8 h
  by_cases q11 : x1 = 6
  · have h := nift q11 h
    refine nx_tabIn (tgt := 92) C0 6 dX5_count_1 (by rw [q11]; rfl) (by decide) (by decide) rfl (by decide) ?_
    refine nx_aload_n C0 0 dX5_count_92 rfl ?_
    refine nx_gX5_now C0 hh0 hh1 dX5_count_93 ?_
    obtain ⟨r10, c9, h⟩ := nbind h
    refine nx_cVi (ci := 4) (n := 0) (As := []) (st := []) C0 (mX4_allWealth l D B hB nT1 σ c9) gX5_count_X4_allWealth rfl rfl rfl ndX4_allWealth ⟨Nat.le_of_ble_eq_true rfl, Nat.le_of_ble_eq_true rfl⟩ (by have := nT_lt nT1; omega) (nT_e nT1 _) rfl rfl rfl (Nat.le_of_ble_eq_true rfl) rfl dX5_count_96 ?_
    exact nr_i C0 hr dX5_count_99 h
  have h := niff q11 h
  have q1n := nne q1 (z := 0) rfl
  have q2n := nne q2 (z := 1) rfl
  have q3n := nne q3 (z := 2) rfl
  have q4n := nne q4 (z := 3) rfl
  have q5n := nne q5 (z := 4) rfl
  have q8n := nne q8 (z := 5) rfl
  have q11n := nne q11 (z := 6) rfl
  refine nx_tabOut (tgt := 100) C0 dX5_count_1 (by omega) (by decide) ?_
  refine nx_iconst (v := -1) C0 dX5_count_100 (by decide) ?_
  exact nr_i C0 hr dX5_count_101 h
def rmX5_keep : Room := { frames := 1, cells := 0, slots := 0, locals := 22 }
theorem ndX5_keep : yX5_keep.cls = RX5 ∧ yX5_keep.cls ≠ "java/lang/invoke/MethodHandle" ∧ yX5_keep.cls ≠ "java/lang/invoke/VarHandle" ∧ (parseMethodDescriptor yX5_keep.desc).map (fun d => d.parameters.length) = some 4 := by decide +kernel
set_option maxRecDepth 100000 in
set_option maxHeartbeats 4000000 in
theorem mX5_keep (l : Launch) (D : va_G) (B : nBT) (hB : nInj B) (x1 : Int32) (x2 : Int32) (x3 : Int32) (x4 : Int32) (σ : nS) {r : Int32} {σ1 : nS} (h : fX5_keep x1 x2 x3 x4 σ = some (r, σ1)) : nMi l D B yX5_keep wsX5_keep rmX5_keep [.ref (na B 0), .int x1, .int x2, .int x3, .int x4] σ r σ1 := by
  refine nmet (cc := cX5_keep) (maxL := 5) (ret := (some .int)) (own := RX5) (av := [.ref (na B 0), .int x1, .int x2, .int x3, .int x4]) (nQi D B r σ1) hB (by decide) rfl rfl (Nat.le_of_ble_eq_true rfl) (fun p e s m args below meth c C0 hr => ?_)
  have hh0 : ∀ w ∈ wsX50, w ∈ wsX5_keep := by decide +kernel
  have hh1 := C0.2.2.2.2.1 (Cond.fieldLink RX5 24 "NotInTheCoin" "shelves" "[LNotInTheCoin$Shelf;") (by decide +kernel)
  have hh2 : ∀ w ∈ wsX10, w ∈ wsX5_keep := by decide +kernel
  have hh3 := C0.2.2.2.2.1 (Cond.fieldLink RX5 280 "NotInTheCoin$Shelf" "holds" "I") (by decide +kernel)
  refine nx_lv (lv' := [(0, .ref (na B 0)), (1, .int x1), (2, .int x2), (3, .int x3), (4, .int x4)]) [0, 1, 2, 3, 4] rfl ?_
  rw [fX5_keep] at h
  refine nx_iload_n C0 1 dX5_keep_0 rfl ?_
  obtain ⟨r2, c1, h⟩ := nbind h
  refine nx_cSi (n := 1) (As := [.int x1]) (st := []) C0 (mX5_isShelf l D B hB x1 σ c1) gX5_keep_X5_isShelf rfl rfl rfl ndX5_isShelf ⟨Nat.le_of_ble_eq_true rfl, Nat.le_of_ble_eq_true rfl⟩ rfl (Nat.le_of_ble_eq_true rfl) rfl dX5_keep_1 ?_
  refine nx_if_eq (tgt := 16) C0 dX5_keep_4 (by decide) (fun q => ?_) (fun q => ?_)
  · have h := nift q h
    refine nx_iconst (v := -1) C0 dX5_keep_16 (by decide) ?_
    exact nr_i2 C0 hr dX5_keep_17 h
  · have h := niff q h
    refine nx_iload_n C0 2 dX5_keep_7 rfl ?_
    refine nx_if_lt (tgt := 16) C0 dX5_keep_8 (by decide) (fun q => ?_) (fun q => ?_)
    · have h := nift q h
      refine nx_iconst (v := -1) C0 dX5_keep_16 (by decide) ?_
      exact nr_i2 C0 hr dX5_keep_17 h
    · have h := niff q h
      refine nx_iload_n C0 2 dX5_keep_11 rfl ?_
      refine nx_iconst (v := 1) C0 dX5_keep_12 (by decide) ?_
      refine nx_icmp_le (tgt := 18) C0 dX5_keep_13 (by decide) (fun q => ?_) (fun q => ?_)
      · have h := nift q h
        refine nx_iload_n C0 2 dX5_keep_18 rfl ?_
        refine nx_if_ne (tgt := 34) C0 dX5_keep_19 (by decide) (fun q => ?_) (fun q => ?_)
        · have h := niff q h
          refine nx_iload_n C0 3 dX5_keep_34 rfl ?_
          obtain ⟨r4, c3, h⟩ := nbind h
          refine nx_cSi (n := 1) (As := [.int x3]) (st := []) C0 (mX5_isKind l D B hB x3 σ c3) gX5_keep_X5_isKind rfl rfl rfl ndX5_isKind ⟨Nat.le_of_ble_eq_true rfl, Nat.le_of_ble_eq_true rfl⟩ rfl (Nat.le_of_ble_eq_true rfl) rfl dX5_keep_35 ?_
          refine nx_if_eq (tgt := 49) C0 dX5_keep_38 (by decide) (fun q => ?_) (fun q => ?_)
          · have h := nift q h
            refine nx_iconst (v := -1) C0 dX5_keep_49 (by decide) ?_
            exact nr_i2 C0 hr dX5_keep_50 h
          · have h := niff q h
            refine nx_iload C0 4 dX5_keep_41 rfl ?_
            obtain ⟨r6, c5, h⟩ := nbind h
            refine nx_cSi (n := 1) (As := [.int x4]) (st := []) C0 (mX5_isFigure l D B hB x4 σ c5) gX5_keep_X5_isFigure rfl rfl rfl ndX5_isFigure ⟨Nat.le_of_ble_eq_true rfl, Nat.le_of_ble_eq_true rfl⟩ rfl (Nat.le_of_ble_eq_true rfl) rfl dX5_keep_43 ?_
            refine nx_if_ne (tgt := 51) C0 dX5_keep_46 (by decide) (fun q => ?_) (fun q => ?_)
            · have h := niff q h
              refine nx_aload_n C0 0 dX5_keep_51 rfl ?_
              refine nx_gX5_shelves C0 hh0 hh1 dX5_keep_52 ?_
              refine nx_iload_n C0 1 dX5_keep_55 rfl ?_
              obtain ⟨g7, h⟩ := nguard h
              refine nx_aldS C0 g7 dX5_keep_56 ?_
              refine nx_iload_n C0 3 dX5_keep_57 rfl ?_
              refine nx_iload C0 4 dX5_keep_58 rfl ?_
              obtain ⟨r9, t10, c8, h⟩ := nbind2 h
              refine nx_cVv (ci := 1) (n := 2) (As := [.int x3, .int x4]) (st := []) C0 (mX1_holdThing l D B hB (nSh_of g7) x3 x4 σ c8) gX5_keep_X1_holdThing rfl rfl rfl ndX1_holdThing ⟨Nat.le_of_ble_eq_true rfl, Nat.le_of_ble_eq_true rfl⟩ (by have := nSh_lt (nSh_of g7); omega) (nSh_e (nSh_of g7) _) rfl rfl rfl (Nat.le_of_ble_eq_true rfl) rfl dX5_keep_60 ?_
              refine nx_iconst (v := 0) C0 dX5_keep_63 (by decide) ?_
              exact nr_i2 C0 hr dX5_keep_64 h
            · have h := nift q h
              refine nx_iconst (v := -1) C0 dX5_keep_49 (by decide) ?_
              exact nr_i2 C0 hr dX5_keep_50 h
        · have h := nift q h
          refine nx_aload_n C0 0 dX5_keep_22 rfl ?_
          refine nx_gX5_shelves C0 hh0 hh1 dX5_keep_23 ?_
          refine nx_iload_n C0 1 dX5_keep_26 rfl ?_
          obtain ⟨g11, h⟩ := nguard h
          refine nx_aldS C0 g11 dX5_keep_27 ?_
          refine nx_iconst (v := 0) C0 dX5_keep_28 (by decide) ?_
          obtain ⟨t12, et12, h⟩ := nlet h
          refine nx_pX1_holds C0 (nSh_of g11) hh2 hh3 dX5_keep_29 et12 ?_
          refine nx_iconst (v := 0) C0 dX5_keep_32 (by decide) ?_
          exact nr_i2 C0 hr dX5_keep_33 h
      · have h := niff q h
        refine nx_iconst (v := -1) C0 dX5_keep_16 (by decide) ?_
        exact nr_i2 C0 hr dX5_keep_17 h
def rmX5_row : Room := { frames := 1, cells := 0, slots := 0, locals := 23 }
theorem ndX5_row : yX5_row.cls = RX5 ∧ yX5_row.cls ≠ "java/lang/invoke/MethodHandle" ∧ yX5_row.cls ≠ "java/lang/invoke/VarHandle" ∧ (parseMethodDescriptor yX5_row.desc).map (fun d => d.parameters.length) = some 3 := by decide +kernel
set_option maxRecDepth 100000 in
set_option maxHeartbeats 4000000 in
theorem mX5_row (l : Launch) (D : va_G) (B : nBT) (hB : nInj B) (x1 : Int32) (x2 : Int32) (x3 : Int32) (σ : nS) {r : Int32} {σ1 : nS} (h : fX5_row x1 x2 x3 σ = some (r, σ1)) : nMi l D B yX5_row wsX5_row rmX5_row [.ref (na B 0), .int x1, .int x2, .int x3] σ r σ1 := by
  refine nmet (cc := cX5_row) (maxL := 4) (ret := (some .int)) (own := RX5) (av := [.ref (na B 0), .int x1, .int x2, .int x3]) (nQi D B r σ1) hB (by decide) rfl rfl (Nat.le_of_ble_eq_true rfl) (fun p e s m args below meth c C0 hr => ?_)
  have hh0 : ∀ w ∈ wsX50, w ∈ wsX5_row := by decide +kernel
  have hh1 := C0.2.2.2.2.1 (Cond.fieldLink RX5 24 "NotInTheCoin" "shelves" "[LNotInTheCoin$Shelf;") (by decide +kernel)
  refine nx_lv (lv' := [(0, .ref (na B 0)), (1, .int x1), (2, .int x2), (3, .int x3)]) [0, 1, 2, 3] rfl ?_
  rw [fX5_row] at h
  refine nx_iload_n C0 1 dX5_row_0 rfl ?_
  obtain ⟨r2, c1, h⟩ := nbind h
  refine nx_cSi (n := 1) (As := [.int x1]) (st := []) C0 (mX5_isShelf l D B hB x1 σ c1) gX5_row_X5_isShelf rfl rfl rfl ndX5_isShelf ⟨Nat.le_of_ble_eq_true rfl, Nat.le_of_ble_eq_true rfl⟩ rfl (Nat.le_of_ble_eq_true rfl) rfl dX5_row_1 ?_
  refine nx_if_eq (tgt := 22) C0 dX5_row_4 (by decide) (fun q => ?_) (fun q => ?_)
  · have h := nift q h
    refine nx_iconst (v := -1) C0 dX5_row_22 (by decide) ?_
    exact nr_i2 C0 hr dX5_row_23 h
  · have h := niff q h
    refine nx_iload_n C0 2 dX5_row_7 rfl ?_
    refine nx_if_lt (tgt := 22) C0 dX5_row_8 (by decide) (fun q => ?_) (fun q => ?_)
    · have h := nift q h
      refine nx_iconst (v := -1) C0 dX5_row_22 (by decide) ?_
      exact nr_i2 C0 hr dX5_row_23 h
    · have h := niff q h
      refine nx_iload_n C0 2 dX5_row_11 rfl ?_
      refine nx_iconst (v := 2) C0 dX5_row_12 (by decide) ?_
      refine nx_icmp_gt (tgt := 22) C0 dX5_row_13 (by decide) (fun q => ?_) (fun q => ?_)
      · have h := nift q h
        refine nx_iconst (v := -1) C0 dX5_row_22 (by decide) ?_
        exact nr_i2 C0 hr dX5_row_23 h
      · have h := niff q h
        refine nx_iload_n C0 3 dX5_row_16 rfl ?_
        refine nx_bipush (v := 100) C0 dX5_row_17 (by decide) ?_
        refine nx_icmp_le (tgt := 24) C0 dX5_row_19 (by decide) (fun q => ?_) (fun q => ?_)
        · have h := nift q h
          refine nx_iload_n C0 3 dX5_row_24 rfl ?_
          refine nx_if_ge (tgt := 31) C0 dX5_row_25 (by decide) (fun q => ?_) (fun q => ?_)
          · have h := nift q h
            refine nx_aload_n C0 0 dX5_row_31 rfl ?_
            refine nx_gX5_shelves C0 hh0 hh1 dX5_row_32 ?_
            refine nx_iload_n C0 1 dX5_row_35 rfl ?_
            obtain ⟨g3, h⟩ := nguard h
            refine nx_aldS C0 g3 dX5_row_36 ?_
            refine nx_iload_n C0 2 dX5_row_37 rfl ?_
            refine nx_iload_n C0 3 dX5_row_38 rfl ?_
            obtain ⟨r5, t6, c4, h⟩ := nbind2 h
            refine nx_cVv (ci := 1) (n := 2) (As := [.int x2, .int x3]) (st := []) C0 (mX1_holdRow l D B hB (nSh_of g3) x2 x3 σ c4) gX5_row_X1_holdRow rfl rfl rfl ndX1_holdRow ⟨Nat.le_of_ble_eq_true rfl, Nat.le_of_ble_eq_true rfl⟩ (by have := nSh_lt (nSh_of g3); omega) (nSh_e (nSh_of g3) _) rfl rfl rfl (Nat.le_of_ble_eq_true rfl) rfl dX5_row_39 ?_
            refine nx_iconst (v := 0) C0 dX5_row_42 (by decide) ?_
            exact nr_i2 C0 hr dX5_row_43 h
          · have h := niff q h
            refine nx_bipush (v := -14) C0 dX5_row_28 (by decide) ?_
            exact nr_i2 C0 hr dX5_row_30 h
        · have h := niff q h
          refine nx_iconst (v := -1) C0 dX5_row_22 (by decide) ?_
          exact nr_i2 C0 hr dX5_row_23 h
def rmX5_put : Room := { frames := 1, cells := 0, slots := 0, locals := 22 }
theorem ndX5_put : yX5_put.cls = RX5 ∧ yX5_put.cls ≠ "java/lang/invoke/MethodHandle" ∧ yX5_put.cls ≠ "java/lang/invoke/VarHandle" ∧ (parseMethodDescriptor yX5_put.desc).map (fun d => d.parameters.length) = some 3 := by decide +kernel
set_option maxRecDepth 100000 in
set_option maxHeartbeats 4000000 in
theorem mX5_put (l : Launch) (D : va_G) (B : nBT) (hB : nInj B) (x1 : Int32) (x2 : Int32) (x3 : Int32) (σ : nS) {r : Int32} {σ1 : nS} (h : fX5_put x1 x2 x3 σ = some (r, σ1)) : nMi l D B yX5_put wsX5_put rmX5_put [.ref (na B 0), .int x1, .int x2, .int x3] σ r σ1 := by
  refine nmet (cc := cX5_put) (maxL := 5) (ret := (some .int)) (own := RX5) (av := [.ref (na B 0), .int x1, .int x2, .int x3]) (nQi D B r σ1) hB (by decide) rfl rfl (Nat.le_of_ble_eq_true rfl) (fun p e s m args below meth c C0 hr => ?_)
  have hh0 : ∀ w ∈ wsX50, w ∈ wsX5_put := by decide +kernel
  have hh1 := C0.2.2.2.2.1 (Cond.fieldLink RX5 24 "NotInTheCoin" "shelves" "[LNotInTheCoin$Shelf;") (by decide +kernel)
  refine nx_lv (lv' := [(0, .ref (na B 0)), (1, .int x1), (2, .int x2), (3, .int x3)]) [0, 1, 2, 3] rfl ?_
  rw [fX5_put] at h
  refine nx_iload_n C0 1 dX5_put_0 rfl ?_
  obtain ⟨r2, c1, h⟩ := nbind h
  refine nx_cSi (n := 1) (As := [.int x1]) (st := []) C0 (mX5_isShelf l D B hB x1 σ c1) gX5_put_X5_isShelf rfl rfl rfl ndX5_isShelf ⟨Nat.le_of_ble_eq_true rfl, Nat.le_of_ble_eq_true rfl⟩ rfl (Nat.le_of_ble_eq_true rfl) rfl dX5_put_1 ?_
  refine nx_if_ne (tgt := 9) C0 dX5_put_4 (by decide) (fun q => ?_) (fun q => ?_)
  · have h := niff q h
    refine nx_aload_n C0 0 dX5_put_9 rfl ?_
    refine nx_gX5_shelves C0 hh0 hh1 dX5_put_10 ?_
    refine nx_iload_n C0 1 dX5_put_13 rfl ?_
    obtain ⟨g3, h⟩ := nguard h
    refine nx_aldS C0 g3 dX5_put_14 ?_
    refine nx_iconst (v := 2) C0 dX5_put_15 (by decide) ?_
    obtain ⟨r5, c4, h⟩ := nbind h
    refine nx_cVi (ci := 1) (n := 1) (As := [.int (2 : Int32)]) (st := []) C0 (mX1_refusal l D B hB (nSh_of g3) (2 : Int32) σ c4) gX5_put_X1_refusal rfl rfl rfl ndX1_refusal ⟨Nat.le_of_ble_eq_true rfl, Nat.le_of_ble_eq_true rfl⟩ (by have := nSh_lt (nSh_of g3); omega) (nSh_e (nSh_of g3) _) rfl rfl rfl (Nat.le_of_ble_eq_true rfl) rfl dX5_put_16 ?_
    refine nx_istore (i := 4) (y := r5) (lv' := [(4, .int r5), (0, .ref (na B 0)), (1, .int x1), (2, .int x2), (3, .int x3)]) C0 dX5_put_19 (by decide) rfl rfl ?_
    refine nx_iload C0 0 dX5_put_21 rfl ?_
    refine nx_if_eq (tgt := 29) C0 dX5_put_23 (by decide) (fun q => ?_) (fun q => ?_)
    · have h := nift q h
      refine nx_aload_n C0 1 dX5_put_29 rfl ?_
      refine nx_gX5_shelves C0 hh0 hh1 dX5_put_30 ?_
      refine nx_iload_n C0 2 dX5_put_33 rfl ?_
      obtain ⟨g6, h⟩ := nguard h
      refine nx_aldS C0 g6 dX5_put_34 ?_
      refine nx_iload_n C0 3 dX5_put_35 rfl ?_
      obtain ⟨r8, c7, h⟩ := nbind h
      refine nx_cVi (ci := 1) (n := 1) (As := [.int x2]) (st := []) C0 (mX1_isPlace l D B hB (nSh_of g6) x2 σ c7) gX5_put_X1_isPlace rfl rfl rfl ndX1_isPlace ⟨Nat.le_of_ble_eq_true rfl, Nat.le_of_ble_eq_true rfl⟩ (by have := nSh_lt (nSh_of g6); omega) (nSh_e (nSh_of g6) _) rfl rfl rfl (Nat.le_of_ble_eq_true rfl) rfl dX5_put_36 ?_
      refine nx_if_ne (tgt := 45) C0 dX5_put_39 (by decide) (fun q => ?_) (fun q => ?_)
      · have h := niff q h
        refine nx_aload_n C0 1 dX5_put_45 rfl ?_
        refine nx_gX5_shelves C0 hh0 hh1 dX5_put_46 ?_
        refine nx_iload_n C0 2 dX5_put_49 rfl ?_
        obtain ⟨g9, h⟩ := nguard h
        refine nx_aldS C0 g9 dX5_put_50 ?_
        refine nx_iload_n C0 3 dX5_put_51 rfl ?_
        refine nx_iload_n C0 4 dX5_put_52 rfl ?_
        obtain ⟨r11, t12, c10, h⟩ := nbind2 h
        refine nx_cVv (ci := 1) (n := 2) (As := [.int x2, .int x3]) (st := []) C0 (mX1_fill l D B hB (nSh_of g9) x2 x3 σ c10) gX5_put_X1_fill rfl rfl rfl ndX1_fill ⟨Nat.le_of_ble_eq_true rfl, Nat.le_of_ble_eq_true rfl⟩ (by have := nSh_lt (nSh_of g9); omega) (nSh_e (nSh_of g9) _) rfl rfl rfl (Nat.le_of_ble_eq_true rfl) rfl dX5_put_53 ?_
        refine nx_iconst (v := 0) C0 dX5_put_56 (by decide) ?_
        exact nr_i2 C0 hr dX5_put_57 h
      · have h := nift q h
        refine nx_bipush (v := -13) C0 dX5_put_42 (by decide) ?_
        exact nr_i2 C0 hr dX5_put_44 h
    · have h := niff q h
      refine nx_iload C0 0 dX5_put_26 rfl ?_
      exact nr_i2 C0 hr dX5_put_28 h
  · have h := nift q h
    refine nx_iconst (v := -1) C0 dX5_put_7 (by decide) ?_
    exact nr_i2 C0 hr dX5_put_8 h
