def rmX5_copy : Room := { frames := 1, cells := 0, slots := 0, locals := 40 }
theorem ndX5_copy : yX5_copy.cls = RX5 ∧ yX5_copy.cls ≠ "java/lang/invoke/MethodHandle" ∧ yX5_copy.cls ≠ "java/lang/invoke/VarHandle" ∧ (parseMethodDescriptor yX5_copy.desc).map (fun d => d.parameters.length) = some 5 := by decide +kernel
set_option maxRecDepth 100000 in
set_option maxHeartbeats 4000000 in
theorem mX5_copy (l : Launch) (D : va_G) (B : nBT) (hB : nInj B) (x1 : Int32) (x2 : Int32) (x3 : Int32) (x4 : Int32) (x5 : Int32) (σ : nS) {r : Int32} {σ1 : nS} (h : fX5_copy x1 x2 x3 x4 x5 σ = some (r, σ1)) : nMi l D B yX5_copy wsX5_copy rmX5_copy [.ref (na B 0), .int x1, .int x2, .int x3, .int x4, .int x5] σ r σ1 := by
  refine nmet (cc := cX5_copy) (maxL := 8) (ret := (some .int)) (own := RX5) (av := [.ref (na B 0), .int x1, .int x2, .int x3, .int x4, .int x5]) (nQi D B r σ1) hB (by decide) rfl rfl (Nat.le_of_ble_eq_true rfl) (fun p e s m args below meth c C0 hr => ?_)
  have hh0 : ∀ w ∈ wsX50, w ∈ wsX5_copy := by decide +kernel
  have hh1 := C0.2.2.2.2.1 (Cond.fieldLink RX5 24 "NotInTheCoin" "shelves" "[LNotInTheCoin$Shelf;") (by decide +kernel)
  have hh2 : ∀ w ∈ wsX10, w ∈ wsX5_copy := by decide +kernel
  have hh3 := C0.2.2.2.2.1 (Cond.fieldLink RX5 280 "NotInTheCoin$Shelf" "holds" "I") (by decide +kernel)
  have hh4 := C0.2.2.2.2.1 (Cond.fieldLink RX5 58 "NotInTheCoin$Shelf" "sort" "I") (by decide +kernel)
  have hh5 := C0.2.2.2.2.1 (Cond.fieldLink RX5 77 "NotInTheCoin$Shelf" "cells" "[I") (by decide +kernel)
  have hh6 := C0.2.2.2.2.1 (Cond.methodLink RX5 318 arraycopyName) (by decide +kernel)
  have hh7 := C0.2.2.2.2.1 (Cond.native arraycopyName) (by decide +kernel)
  have hh8 := C0.2.2.2.2.1 (Cond.static arraycopyName) (by decide +kernel)
  have hh9 := C0.2.2.2.2.1 (Cond.initialized "java/lang/System") (by decide +kernel)
  refine nx_lv (lv' := [(0, .ref (na B 0)), (1, .int x1), (2, .int x2), (3, .int x3), (4, .int x4), (5, .int x5)]) [0, 1, 2, 3, 4, 5] rfl ?_
  rw [fX5_copy] at h
  refine nx_iload_n C0 1 dX5_copy_0 rfl ?_
  obtain ⟨r2, c1, h⟩ := nbind h
  refine nx_cSi (n := 1) (As := [.int x1]) (st := []) C0 (mX5_isShelf l D B hB x1 σ c1) gX5_copy_X5_isShelf rfl rfl rfl ndX5_isShelf ⟨Nat.le_of_ble_eq_true rfl, Nat.le_of_ble_eq_true rfl⟩ rfl (Nat.le_of_ble_eq_true rfl) rfl dX5_copy_1 ?_
  refine nx_if_eq (tgt := 14) C0 dX5_copy_4 (by decide) (fun q => ?_) (fun q => ?_)
  · have h := nift q h
    refine nx_iconst (v := -1) C0 dX5_copy_14 (by decide) ?_
    exact nr_i2 C0 hr dX5_copy_15 h
  · have h := niff q h
    refine nx_iload_n C0 3 dX5_copy_7 rfl ?_
    obtain ⟨r4, c3, h⟩ := nbind h
    refine nx_cSi (n := 1) (As := [.int x3]) (st := []) C0 (mX5_isShelf l D B hB x3 σ c3) gX5_copy_X5_isShelf rfl rfl rfl ndX5_isShelf ⟨Nat.le_of_ble_eq_true rfl, Nat.le_of_ble_eq_true rfl⟩ rfl (Nat.le_of_ble_eq_true rfl) rfl dX5_copy_8 ?_
    refine nx_if_ne (tgt := 16) C0 dX5_copy_11 (by decide) (fun q => ?_) (fun q => ?_)
    · have h := niff q h
      refine nx_aload_n C0 0 dX5_copy_16 rfl ?_
      refine nx_gX5_shelves C0 hh0 hh1 dX5_copy_17 ?_
      refine nx_iload_n C0 1 dX5_copy_20 rfl ?_
      obtain ⟨g5, h⟩ := nguard h
      refine nx_aldS C0 g5 dX5_copy_21 ?_
      refine nx_astore (i := 6) (y := na B (29 + 2 * (x1).toNatClampNeg)) (lv' := [(6, .ref (na B (29 + 2 * (x1).toNatClampNeg))), (0, .ref (na B 0)), (1, .int x1), (2, .int x2), (3, .int x3), (4, .int x4), (5, .int x5)]) C0 dX5_copy_22 (by decide) rfl rfl ?_
      refine nx_aload_n C0 1 dX5_copy_24 rfl ?_
      refine nx_gX5_shelves C0 hh0 hh1 dX5_copy_25 ?_
      refine nx_iload_n C0 4 dX5_copy_28 rfl ?_
      obtain ⟨g6, h⟩ := nguard h
      refine nx_aldS C0 g6 dX5_copy_29 ?_
      refine nx_astore (i := 7) (y := na B (29 + 2 * (x3).toNatClampNeg)) (lv' := [(7, .ref (na B (29 + 2 * (x3).toNatClampNeg))), (6, .ref (na B (29 + 2 * (x1).toNatClampNeg))), (0, .ref (na B 0)), (1, .int x1), (2, .int x2), (3, .int x3), (4, .int x4), (5, .int x5)]) C0 dX5_copy_30 (by decide) rfl rfl ?_
      refine nx_aload C0 1 dX5_copy_32 rfl ?_
      refine nx_gX1_holds C0 (nSh_of g5) hh2 hh3 dX5_copy_34 ?_
      refine nx_if_eq (tgt := 48) C0 dX5_copy_37 (by decide) (fun q => ?_) (fun q => ?_)
      · have h := nift q h
        refine nx_bipush (v := -11) C0 dX5_copy_48 (by decide) ?_
        exact nr_i2 C0 hr dX5_copy_50 h
      · have h := niff q h
        refine nx_aload C0 0 dX5_copy_40 rfl ?_
        refine nx_gX1_holds C0 (nSh_of g6) hh2 hh3 dX5_copy_42 ?_
        refine nx_if_ne (tgt := 51) C0 dX5_copy_45 (by decide) (fun q => ?_) (fun q => ?_)
        · have h := niff q h
          refine nx_aload C0 1 dX5_copy_51 rfl ?_
          refine nx_gX1_holds C0 (nSh_of g5) hh2 hh3 dX5_copy_53 ?_
          refine nx_iconst (v := 2) C0 dX5_copy_56 (by decide) ?_
          refine nx_icmp_ne (tgt := 82) C0 dX5_copy_57 (by decide) (fun q => ?_) (fun q => ?_)
          · have h := niff q h
            refine nx_bipush (v := -12) C0 dX5_copy_82 (by decide) ?_
            exact nr_i2 C0 hr dX5_copy_84 h
          · have h := nift q h
            refine nx_aload C0 0 dX5_copy_60 rfl ?_
            refine nx_gX1_holds C0 (nSh_of g6) hh2 hh3 dX5_copy_62 ?_
            refine nx_iconst (v := 2) C0 dX5_copy_65 (by decide) ?_
            refine nx_icmp_ne (tgt := 82) C0 dX5_copy_66 (by decide) (fun q => ?_) (fun q => ?_)
            · have h := niff q h
              refine nx_bipush (v := -12) C0 dX5_copy_82 (by decide) ?_
              exact nr_i2 C0 hr dX5_copy_84 h
            · have h := nift q h
              refine nx_aload C0 1 dX5_copy_69 rfl ?_
              refine nx_gX1_sort C0 (nSh_of g5) hh2 hh4 dX5_copy_71 ?_
              refine nx_aload C0 0 dX5_copy_74 rfl ?_
              refine nx_gX1_sort C0 (nSh_of g6) hh2 hh4 dX5_copy_76 ?_
              refine nx_icmp_eq (tgt := 85) C0 dX5_copy_79 (by decide) (fun q => ?_) (fun q => ?_)
              · have h := nift q h
                refine nx_aload C0 1 dX5_copy_85 rfl ?_
                refine nx_iload_n C0 4 dX5_copy_87 rfl ?_
                refine nx_iload C0 7 dX5_copy_88 rfl ?_
                obtain ⟨r8, c7, h⟩ := nbind h
                refine nx_cVi (ci := 1) (n := 2) (As := [.int x2, .int x5]) (st := []) C0 (mX1_isStretch l D B hB (nSh_of g5) x2 x5 σ c7) gX5_copy_X1_isStretch rfl rfl rfl ndX1_isStretch ⟨Nat.le_of_ble_eq_true rfl, Nat.le_of_ble_eq_true rfl⟩ (by have := nSh_lt (nSh_of g5); omega) (nSh_e (nSh_of g5) _) rfl rfl rfl (Nat.le_of_ble_eq_true rfl) rfl dX5_copy_90 ?_
                refine nx_if_eq (tgt := 108) C0 dX5_copy_93 (by decide) (fun q => ?_) (fun q => ?_)
                · have h := nift q h
                  refine nx_bipush (v := -13) C0 dX5_copy_108 (by decide) ?_
                  exact nr_i2 C0 hr dX5_copy_110 h
                · have h := niff q h
                  refine nx_aload C0 0 dX5_copy_96 rfl ?_
                  refine nx_iload C0 6 dX5_copy_98 rfl ?_
                  refine nx_iload C0 7 dX5_copy_100 rfl ?_
                  obtain ⟨r10, c9, h⟩ := nbind h
                  refine nx_cVi (ci := 1) (n := 2) (As := [.int x4, .int x5]) (st := []) C0 (mX1_isStretch l D B hB (nSh_of g6) x4 x5 σ c9) gX5_copy_X1_isStretch rfl rfl rfl ndX1_isStretch ⟨Nat.le_of_ble_eq_true rfl, Nat.le_of_ble_eq_true rfl⟩ (by have := nSh_lt (nSh_of g6); omega) (nSh_e (nSh_of g6) _) rfl rfl rfl (Nat.le_of_ble_eq_true rfl) rfl dX5_copy_102 ?_
                  refine nx_if_ne (tgt := 111) C0 dX5_copy_105 (by decide) (fun q => ?_) (fun q => ?_)
                  · have h := niff q h
                    refine nx_aload C0 1 dX5_copy_111 rfl ?_
                    refine nx_gX1_cells C0 (nSh_of g5) hh2 hh5 dX5_copy_113 ?_
                    refine nx_iload_n C0 4 dX5_copy_116 rfl ?_
                    refine nx_aload C0 0 dX5_copy_117 rfl ?_
                    refine nx_gX1_cells C0 (nSh_of g6) hh2 hh5 dX5_copy_119 ?_
                    refine nx_iload C0 6 dX5_copy_122 rfl ?_
                    refine nx_iload C0 7 dX5_copy_124 rfl ?_
                    obtain ⟨g11, h⟩ := nguard h
                    obtain ⟨g12, h⟩ := nguard h
                    obtain ⟨g13, h⟩ := nguard h
                    obtain ⟨t14, et14, h⟩ := nlet h
                    refine nx_copyi C0 (nSh_c (nSh_of g5)) (nSh_c (nSh_of g6)) hh6 hh7 hh8 hh9 g11 g12 g13 ⟨Nat.le_of_ble_eq_true rfl, Nat.le_of_ble_eq_true rfl⟩ dX5_copy_126 et14 ?_
                    refine nx_iload C0 7 dX5_copy_129 rfl ?_
                    exact nr_i2 C0 hr dX5_copy_131 h
                  · have h := nift q h
                    refine nx_bipush (v := -13) C0 dX5_copy_108 (by decide) ?_
                    exact nr_i2 C0 hr dX5_copy_110 h
              · have h := niff q h
                refine nx_bipush (v := -12) C0 dX5_copy_82 (by decide) ?_
                exact nr_i2 C0 hr dX5_copy_84 h
        · have h := nift q h
          refine nx_bipush (v := -11) C0 dX5_copy_48 (by decide) ?_
          exact nr_i2 C0 hr dX5_copy_50 h
    · have h := nift q h
      refine nx_iconst (v := -1) C0 dX5_copy_14 (by decide) ?_
      exact nr_i2 C0 hr dX5_copy_15 h
def rmX5_costOf : Room := { frames := 0, cells := 0, slots := 0, locals := 0 }
theorem ndX5_costOf : yX5_costOf.cls ≠ "java/lang/invoke/MethodHandle" ∧ yX5_costOf.cls ≠ "java/lang/invoke/VarHandle" ∧ (parseMethodDescriptor yX5_costOf.desc).map (fun d => d.parameters.length) = some 2 := by decide +kernel
set_option maxRecDepth 100000 in
set_option maxHeartbeats 4000000 in
theorem mX5_costOf (l : Launch) (D : va_G) (B : nBT) (hB : nInj B) (x0 : Int32) (x1 : Int32) (σ : nS) {r : Int32}  (h : fX5_costOf x0 x1 σ = some r) : nMi l D B yX5_costOf wsX5_costOf rmX5_costOf [.int x0, .int x1] σ r σ := by
  refine nmet (cc := cX5_costOf) (maxL := 6) (ret := (some .int)) (own := RX5) (av := [.int x0, .int x1]) (nQi D B r σ) hB (by decide) rfl rfl (Nat.le_of_ble_eq_true rfl) (fun p e s m args below meth c C0 hr => ?_)
  refine nx_lv (lv' := [(0, .int x0), (1, .int x1)]) [0, 1] rfl ?_
  rw [fX5_costOf] at h
  refine nx_iconst (v := 2) C0 dX5_costOf_0 (by decide) ?_
  refine nx_istore_n (i := 2) (y := (2 : Int32)) (lv' := [(2, .int (2 : Int32)), (0, .int x0), (1, .int x1)]) C0 dX5_costOf_1 rfl (by decide) rfl rfl ?_
  refine nx_iload_n C0 0 dX5_costOf_2 rfl ?_
  refine nx_iconst (v := 4) C0 dX5_costOf_3 (by decide) ?_
  refine nx_iadd C0 dX5_costOf_4 ?_
  obtain ⟨v1, ev1, h⟩ := nlet h
  refine nx_istore_n (i := 3) (y := v1) (lv' := [(3, .int v1), (2, .int (2 : Int32)), (0, .int x0), (1, .int x1)]) C0 dX5_costOf_5 rfl (by decide) ev1 rfl ?_
  refine nx_iload_n C0 0 dX5_costOf_6 rfl ?_
  refine nx_iconst (v := 2) C0 dX5_costOf_7 (by decide) ?_
  refine nx_idiv C0 dX5_costOf_8 (by decide) ?_
  obtain ⟨v2, ev2, h⟩ := nlet h
  refine nx_istore (i := 4) (y := v2) (lv' := [(4, .int v2), (3, .int v1), (2, .int (2 : Int32)), (0, .int x0), (1, .int x1)]) C0 dX5_costOf_9 (by decide) ev2 rfl ?_
  refine nx_iconst (v := 1) C0 dX5_costOf_11 (by decide) ?_
  refine nx_istore (i := 5) (y := (1 : Int32)) (lv' := [(5, .int (1 : Int32)), (4, .int v2), (3, .int v1), (2, .int (2 : Int32)), (0, .int x0), (1, .int x1)]) C0 dX5_costOf_12 (by decide) rfl rfl ?_
  refine nx_iload_n C0 4 dX5_costOf_14 rfl ?_
  by_cases q3 : x0 = 1
  · have h := nift q3 h
    refine nx_tabIn (tgt := 56) C0 1 dX5_costOf_15 (by rw [q3]; rfl) (by decide) (by decide) rfl (by decide) ?_
    refine nx_iload_n C0 3 dX5_costOf_56 rfl ?_
    refine nx_iload_n C0 5 dX5_costOf_57 rfl ?_
    refine nx_iadd C0 dX5_costOf_58 ?_
    exact nr_i C0 hr dX5_costOf_59 h
  have h := niff q3 h
  by_cases q4 : x0 = 2
  · have h := nift q4 h
    refine nx_tabIn (tgt := 60) C0 2 dX5_costOf_15 (by rw [q4]; rfl) (by decide) (by decide) rfl (by decide) ?_
    refine nx_iload_n C0 2 dX5_costOf_60 rfl ?_
    exact nr_i C0 hr dX5_costOf_61 h
  have h := niff q4 h
  by_cases q5 : x0 = 3
  · have h := nift q5 h
    refine nx_tabIn (tgt := 62) C0 3 dX5_costOf_15 (by rw [q5]; rfl) (by decide) (by decide) rfl (by decide) ?_
    refine nx_iload C0 0 dX5_costOf_62 rfl ?_
    exact nr_i C0 hr dX5_costOf_64 h
  have h := niff q5 h
  by_cases q6 : x0 = 4
  · have h := nift q6 h
    refine nx_tabIn (tgt := 65) C0 4 dX5_costOf_15 (by rw [q6]; rfl) (by decide) (by decide) rfl (by decide) ?_
    refine nx_iload C0 0 dX5_costOf_65 rfl ?_
    refine nx_iconst (v := 5) C0 dX5_costOf_67 (by decide) ?_
    refine nx_iadd C0 dX5_costOf_68 ?_
    exact nr_i C0 hr dX5_costOf_69 h
  have h := niff q6 h
  by_cases q7 : x0 = 5
  · have h := nift q7 h
    refine nx_tabIn (tgt := 70) C0 5 dX5_costOf_15 (by rw [q7]; rfl) (by decide) (by decide) rfl (by decide) ?_
    refine nx_iconst (v := 0) C0 dX5_costOf_70 (by decide) ?_
    exact nr_i C0 hr dX5_costOf_71 h
  have h := niff q7 h
  by_cases q8 : x0 = 6
  · have h := nift q8 h
    refine nx_tabIn (tgt := 72) C0 6 dX5_costOf_15 (by rw [q8]; rfl) (by decide) (by decide) rfl (by decide) ?_
    refine nx_iload C0 1 dX5_costOf_72 rfl ?_
    exact nr_i C0 hr dX5_costOf_74 h
  have h := niff q8 h
  by_cases q9 : x0 = 7
  · have h := nift q9 h
    refine nx_tabIn (tgt := 75) C0 7 dX5_costOf_15 (by rw [q9]; rfl) (by decide) (by decide) rfl (by decide) ?_
    refine nx_iload C0 1 dX5_costOf_75 rfl ?_
    refine nx_iload_n C0 5 dX5_costOf_77 rfl ?_
    refine nx_iadd C0 dX5_costOf_78 ?_
    exact nr_i C0 hr dX5_costOf_79 h
  have h := niff q9 h
  have q3n := nne q3 (z := 1) rfl
  have q4n := nne q4 (z := 2) rfl
  have q5n := nne q5 (z := 3) rfl
  have q6n := nne q6 (z := 4) rfl
  have q7n := nne q7 (z := 5) rfl
  have q8n := nne q8 (z := 6) rfl
  have q9n := nne q9 (z := 7) rfl
  refine nx_tabOut (tgt := 80) C0 dX5_costOf_15 (by omega) (by decide) ?_
  refine nx_iload_n C0 3 dX5_costOf_80 rfl ?_
  exact nr_i C0 hr dX5_costOf_81 h
def rmX5_cost : Room := { frames := 1, cells := 0, slots := 0, locals := 25 }
theorem ndX5_cost : yX5_cost.cls = RX5 ∧ yX5_cost.cls ≠ "java/lang/invoke/MethodHandle" ∧ yX5_cost.cls ≠ "java/lang/invoke/VarHandle" ∧ (parseMethodDescriptor yX5_cost.desc).map (fun d => d.parameters.length) = some 1 := by decide +kernel
set_option maxRecDepth 100000 in
set_option maxHeartbeats 4000000 in
theorem mX5_cost (l : Launch) (D : va_G) (B : nBT) (hB : nInj B) (x1 : Int32) (σ : nS) {r : Int32}  (h : fX5_cost x1 σ = some r) : nMi l D B yX5_cost wsX5_cost rmX5_cost [.ref (na B 0), .int x1] σ r σ := by
  refine nmet (cc := cX5_cost) (maxL := 3) (ret := (some .int)) (own := RX5) (av := [.ref (na B 0), .int x1]) (nQi D B r σ) hB (by decide) rfl rfl (Nat.le_of_ble_eq_true rfl) (fun p e s m args below meth c C0 hr => ?_)
  have hh0 : ∀ w ∈ wsX50, w ∈ wsX5_cost := by decide +kernel
  have hh1 := C0.2.2.2.2.1 (Cond.fieldLink RX5 24 "NotInTheCoin" "shelves" "[LNotInTheCoin$Shelf;") (by decide +kernel)
  have hh2 : ∀ w ∈ wsX10, w ∈ wsX5_cost := by decide +kernel
  have hh3 := C0.2.2.2.2.1 (Cond.fieldLink RX5 133 "NotInTheCoin$Shelf" "kind" "I") (by decide +kernel)
  have hh4 := C0.2.2.2.2.1 (Cond.fieldLink RX5 136 "NotInTheCoin$Shelf" "figure" "I") (by decide +kernel)
  refine nx_lv (lv' := [(0, .ref (na B 0)), (1, .int x1)]) [0, 1] rfl ?_
  rw [fX5_cost] at h
  refine nx_iload_n C0 1 dX5_cost_0 rfl ?_
  obtain ⟨r2, c1, h⟩ := nbind h
  refine nx_cSi (n := 1) (As := [.int x1]) (st := []) C0 (mX5_isShelf l D B hB x1 σ c1) gX5_cost_X5_isShelf rfl rfl rfl ndX5_isShelf ⟨Nat.le_of_ble_eq_true rfl, Nat.le_of_ble_eq_true rfl⟩ rfl (Nat.le_of_ble_eq_true rfl) rfl dX5_cost_1 ?_
  refine nx_if_ne (tgt := 9) C0 dX5_cost_4 (by decide) (fun q => ?_) (fun q => ?_)
  · have h := niff q h
    refine nx_aload_n C0 0 dX5_cost_9 rfl ?_
    refine nx_gX5_shelves C0 hh0 hh1 dX5_cost_10 ?_
    refine nx_iload_n C0 1 dX5_cost_13 rfl ?_
    obtain ⟨g3, h⟩ := nguard h
    refine nx_aldS C0 g3 dX5_cost_14 ?_
    refine nx_iconst (v := 1) C0 dX5_cost_15 (by decide) ?_
    obtain ⟨r5, c4, h⟩ := nbind h
    refine nx_cVi (ci := 1) (n := 1) (As := [.int (1 : Int32)]) (st := []) C0 (mX1_refusal l D B hB (nSh_of g3) (1 : Int32) σ c4) gX5_cost_X1_refusal rfl rfl rfl ndX1_refusal ⟨Nat.le_of_ble_eq_true rfl, Nat.le_of_ble_eq_true rfl⟩ (by have := nSh_lt (nSh_of g3); omega) (nSh_e (nSh_of g3) _) rfl rfl rfl (Nat.le_of_ble_eq_true rfl) rfl dX5_cost_16 ?_
    refine nx_istore_n (i := 2) (y := r5) (lv' := [(2, .int r5), (0, .ref (na B 0)), (1, .int x1)]) C0 dX5_cost_19 rfl (by decide) rfl rfl ?_
    refine nx_iload_n C0 0 dX5_cost_20 rfl ?_
    refine nx_if_eq (tgt := 26) C0 dX5_cost_21 (by decide) (fun q => ?_) (fun q => ?_)
    · have h := nift q h
      refine nx_aload_n C0 1 dX5_cost_26 rfl ?_
      refine nx_gX5_shelves C0 hh0 hh1 dX5_cost_27 ?_
      refine nx_iload_n C0 2 dX5_cost_30 rfl ?_
      obtain ⟨g6, h⟩ := nguard h
      refine nx_aldS C0 g6 dX5_cost_31 ?_
      refine nx_gX1_kind C0 (nSh_of g6) hh2 hh3 dX5_cost_32 ?_
      refine nx_aload_n C0 1 dX5_cost_35 rfl ?_
      refine nx_gX5_shelves C0 hh0 hh1 dX5_cost_36 ?_
      refine nx_iload_n C0 2 dX5_cost_39 rfl ?_
      obtain ⟨g7, h⟩ := nguard h
      refine nx_aldS C0 g7 dX5_cost_40 ?_
      refine nx_gX1_figure C0 (nSh_of g7) hh2 hh4 dX5_cost_41 ?_
      obtain ⟨r9, c8, h⟩ := nbind h
      refine nx_cSi (n := 2) (As := [.int (σ (29 + 2 * (x1).toNatClampNeg) 1), .int (σ (29 + 2 * (x1).toNatClampNeg) 2)]) (st := []) C0 (mX5_costOf l D B hB (σ (29 + 2 * (x1).toNatClampNeg) 1) (σ (29 + 2 * (x1).toNatClampNeg) 2) σ c8) gX5_cost_X5_costOf rfl rfl rfl ndX5_costOf ⟨Nat.le_of_ble_eq_true rfl, Nat.le_of_ble_eq_true rfl⟩ rfl (Nat.le_of_ble_eq_true rfl) rfl dX5_cost_44 ?_
      exact nr_i C0 hr dX5_cost_47 h
    · have h := niff q h
      refine nx_iload_n C0 0 dX5_cost_24 rfl ?_
      exact nr_i C0 hr dX5_cost_25 h
  · have h := nift q h
    refine nx_iconst (v := -1) C0 dX5_cost_7 (by decide) ?_
    exact nr_i C0 hr dX5_cost_8 h
