def rmX6_costBy : Room := { frames := 0, cells := 0, slots := 0, locals := 0 }
theorem ndX6_costBy : yX6_costBy.cls ≠ "java/lang/invoke/MethodHandle" ∧ yX6_costBy.cls ≠ "java/lang/invoke/VarHandle" ∧ (parseMethodDescriptor yX6_costBy.desc).map (fun d => d.parameters.length) = some 2 := by decide +kernel
set_option maxRecDepth 100000 in
set_option maxHeartbeats 4000000 in
theorem mX6_costBy (l : Launch) (D : va_G) (B : nBT) (hB : nInj B) (x0 : Int32) (x1 : Int32) (σ : nS) {r : Int32}  (h : fX6_costBy x0 x1 σ = some r) : nMi l D B yX6_costBy wsX6_costBy rmX6_costBy [.int x0, .int x1] σ r σ := by
  refine nmet (cc := cX6_costBy) (maxL := 2) (ret := (some .int)) (own := RX6) (av := [.int x0, .int x1]) (nQi D B r σ) hB (by decide) rfl rfl (Nat.le_of_ble_eq_true rfl) (fun p e s m args below meth c C0 hr => ?_)
  refine nx_lv (lv' := [(0, .int x0), (1, .int x1)]) [0, 1] rfl ?_
  rw [fX6_costBy] at h
  refine nx_iload_n C0 0 dX6_costBy_0 rfl ?_
  by_cases q1 : x0 = 1
  · have h := nift q1 h
    refine nx_tabIn (tgt := 44) C0 1 dX6_costBy_1 (by rw [q1]; rfl) (by decide) (by decide) rfl (by decide) ?_
    refine nx_iconst (v := 2) C0 dX6_costBy_44 (by decide) ?_
    refine nx_iload_n C0 1 dX6_costBy_45 rfl ?_
    refine nx_iadd C0 dX6_costBy_46 ?_
    exact nr_i C0 hr dX6_costBy_47 h
  have h := niff q1 h
  by_cases q2 : x0 = 2
  · have h := nift q2 h
    refine nx_tabIn (tgt := 48) C0 2 dX6_costBy_1 (by rw [q2]; rfl) (by decide) (by decide) rfl (by decide) ?_
    refine nx_bipush (v := 6) C0 dX6_costBy_48 (by decide) ?_
    exact nr_i C0 hr dX6_costBy_50 h
  have h := niff q2 h
  by_cases q3 : x0 = 3
  · have h := nift q3 h
    refine nx_tabIn (tgt := 51) C0 3 dX6_costBy_1 (by rw [q3]; rfl) (by decide) (by decide) rfl (by decide) ?_
    refine nx_iconst (v := 1) C0 dX6_costBy_51 (by decide) ?_
    exact nr_i C0 hr dX6_costBy_52 h
  have h := niff q3 h
  by_cases q4 : x0 = 4
  · have h := nift q4 h
    refine nx_tabIn (tgt := 48) C0 4 dX6_costBy_1 (by rw [q4]; rfl) (by decide) (by decide) rfl (by decide) ?_
    refine nx_bipush (v := 6) C0 dX6_costBy_48 (by decide) ?_
    exact nr_i C0 hr dX6_costBy_50 h
  have h := niff q4 h
  by_cases q5 : x0 = 5
  · have h := nift q5 h
    refine nx_tabIn (tgt := 53) C0 5 dX6_costBy_1 (by rw [q5]; rfl) (by decide) (by decide) rfl (by decide) ?_
    refine nx_iconst (v := 0) C0 dX6_costBy_53 (by decide) ?_
    exact nr_i C0 hr dX6_costBy_54 h
  have h := niff q5 h
  by_cases q6 : x0 = 6
  · have h := nift q6 h
    refine nx_tabIn (tgt := 55) C0 6 dX6_costBy_1 (by rw [q6]; rfl) (by decide) (by decide) rfl (by decide) ?_
    refine nx_iconst (v := 3) C0 dX6_costBy_55 (by decide) ?_
    exact nr_i C0 hr dX6_costBy_56 h
  have h := niff q6 h
  by_cases q7 : x0 = 7
  · have h := nift q7 h
    refine nx_tabIn (tgt := 57) C0 7 dX6_costBy_1 (by rw [q7]; rfl) (by decide) (by decide) rfl (by decide) ?_
    refine nx_iconst (v := 3) C0 dX6_costBy_57 (by decide) ?_
    refine nx_iload_n C0 1 dX6_costBy_58 rfl ?_
    refine nx_iadd C0 dX6_costBy_59 ?_
    exact nr_i C0 hr dX6_costBy_60 h
  have h := niff q7 h
  have q1n := nne q1 (z := 1) rfl
  have q2n := nne q2 (z := 2) rfl
  have q3n := nne q3 (z := 3) rfl
  have q4n := nne q4 (z := 4) rfl
  have q5n := nne q5 (z := 5) rfl
  have q6n := nne q6 (z := 6) rfl
  have q7n := nne q7 (z := 7) rfl
  refine nx_tabOut (tgt := 61) C0 dX6_costBy_1 (by omega) (by decide) ?_
  refine nx_iconst (v := 2) C0 dX6_costBy_61 (by decide) ?_
  exact nr_i C0 hr dX6_costBy_62 h
def rmX6_cost : Room := { frames := 3, cells := 0, slots := 0, locals := 63 }
theorem ndX6_cost : yX6_cost.cls = RX6 ∧ yX6_cost.cls ≠ "java/lang/invoke/MethodHandle" ∧ yX6_cost.cls ≠ "java/lang/invoke/VarHandle" ∧ (parseMethodDescriptor yX6_cost.desc).map (fun d => d.parameters.length) = some 1 := by decide +kernel
set_option maxRecDepth 100000 in
set_option maxHeartbeats 4000000 in
theorem mX6_cost (l : Launch) (D : va_G) (B : nBT) (hB : nInj B) (x1 : Int32) (σ : nS) {r : Int32}  (h : fX6_cost x1 σ = some r) : nMi l D B yX6_cost wsX6_cost rmX6_cost [.ref (na B 63), .int x1] σ r σ := by
  refine nmet (cc := cX6_cost) (maxL := 3) (ret := (some .int)) (own := RX6) (av := [.ref (na B 63), .int x1]) (nQi D B r σ) hB (by decide) rfl rfl (Nat.le_of_ble_eq_true rfl) (fun p e s m args below meth c C0 hr => ?_)
  have hh0 : ∀ w ∈ wsX60, w ∈ wsX6_cost := by decide +kernel
  have hh1 := C0.2.2.2.2.1 (Cond.fieldLink RX6 37 "NotInTheCoinModel" "keptKind" "[I") (by decide +kernel)
  have hh2 := C0.2.2.2.2.1 (Cond.fieldLink RX6 40 "NotInTheCoinModel" "keptFigure" "[I") (by decide +kernel)
  refine nx_lv (lv' := [(0, .ref (na B 63)), (1, .int x1)]) [0, 1] rfl ?_
  rw [fX6_cost] at h
  refine nx_aload_n C0 0 dX6_cost_0 rfl ?_
  refine nx_iload_n C0 1 dX6_cost_1 rfl ?_
  obtain ⟨r2, c1, h⟩ := nbind h
  refine nx_cVi (ci := 6) (n := 1) (As := [.int x1]) (st := []) C0 (mX6_wrongKept l D B hB x1 σ c1) gX6_cost_X6_wrongKept rfl rfl rfl ndX6_wrongKept ⟨Nat.le_of_ble_eq_true rfl, Nat.le_of_ble_eq_true rfl⟩ (by decide) rfl rfl rfl rfl (Nat.le_of_ble_eq_true rfl) rfl dX6_cost_2 ?_
  refine nx_istore_n (i := 2) (y := r2) (lv' := [(2, .int r2), (0, .ref (na B 63)), (1, .int x1)]) C0 dX6_cost_5 rfl (by decide) rfl rfl ?_
  refine nx_iload_n C0 0 dX6_cost_6 rfl ?_
  refine nx_if_eq (tgt := 14) C0 dX6_cost_7 (by decide) (fun q => ?_) (fun q => ?_)
  · have h := nift q h
    refine nx_aload_n C0 1 dX6_cost_14 rfl ?_
    refine nx_gX6_keptKind C0 hh0 hh1 dX6_cost_15 ?_
    refine nx_iload_n C0 2 dX6_cost_18 rfl ?_
    obtain ⟨g3, h⟩ := nguard h
    refine nx_iald C0 nI_73 g3 dX6_cost_19 ?_
    refine nx_aload_n C0 1 dX6_cost_20 rfl ?_
    refine nx_gX6_keptFigure C0 hh0 hh2 dX6_cost_21 ?_
    refine nx_iload_n C0 2 dX6_cost_24 rfl ?_
    obtain ⟨g4, h⟩ := nguard h
    refine nx_iald C0 nI_74 g4 dX6_cost_25 ?_
    obtain ⟨r6, c5, h⟩ := nbind h
    refine nx_cSi (n := 2) (As := [.int (σ 73 (x1).toNatClampNeg), .int (σ 74 (x1).toNatClampNeg)]) (st := []) C0 (mX6_costBy l D B hB (σ 73 (x1).toNatClampNeg) (σ 74 (x1).toNatClampNeg) σ c5) gX6_cost_X6_costBy rfl rfl rfl ndX6_costBy ⟨Nat.le_of_ble_eq_true rfl, Nat.le_of_ble_eq_true rfl⟩ rfl (Nat.le_of_ble_eq_true rfl) rfl dX6_cost_26 ?_
    exact nr_i C0 hr dX6_cost_29 h
  · have h := niff q h
    refine nx_iload_n C0 0 dX6_cost_10 rfl ?_
    refine nx_goto (tgt := 29) C0 dX6_cost_11 (by decide) ?_
    exact nr_i C0 hr dX6_cost_29 h
def rmX6_toss : Room := { frames := 3, cells := 0, slots := 0, locals := 63 }
theorem ndX6_toss : yX6_toss.cls = RX6 ∧ yX6_toss.cls ≠ "java/lang/invoke/MethodHandle" ∧ yX6_toss.cls ≠ "java/lang/invoke/VarHandle" ∧ (parseMethodDescriptor yX6_toss.desc).map (fun d => d.parameters.length) = some 1 := by decide +kernel
set_option maxRecDepth 100000 in
set_option maxHeartbeats 4000000 in
theorem mX6_toss (l : Launch) (D : va_G) (B : nBT) (hB : nInj B) (x1 : Int32) (σ : nS) {r : Int32}  (h : fX6_toss x1 σ = some r) : nMi l D B yX6_toss wsX6_toss rmX6_toss [.ref (na B 63), .int x1] σ r σ := by
  refine nmet (cc := cX6_toss) (maxL := 5) (ret := (some .int)) (own := RX6) (av := [.ref (na B 63), .int x1]) (nQi D B r σ) hB (by decide) rfl rfl (Nat.le_of_ble_eq_true rfl) (fun p e s m args below meth c C0 hr => ?_)
  have hh0 : ∀ w ∈ wsX60, w ∈ wsX6_toss := by decide +kernel
  have hh1 := C0.2.2.2.2.1 (Cond.fieldLink RX6 37 "NotInTheCoinModel" "keptKind" "[I") (by decide +kernel)
  have hh2 := C0.2.2.2.2.1 (Cond.fieldLink RX6 40 "NotInTheCoinModel" "keptFigure" "[I") (by decide +kernel)
  refine nx_lv (lv' := [(0, .ref (na B 63)), (1, .int x1)]) [0, 1] rfl ?_
  rw [fX6_toss] at h
  refine nx_aload_n C0 0 dX6_toss_0 rfl ?_
  refine nx_iload_n C0 1 dX6_toss_1 rfl ?_
  obtain ⟨r2, c1, h⟩ := nbind h
  refine nx_cVi (ci := 6) (n := 1) (As := [.int x1]) (st := []) C0 (mX6_wrongKept l D B hB x1 σ c1) gX6_toss_X6_wrongKept rfl rfl rfl ndX6_wrongKept ⟨Nat.le_of_ble_eq_true rfl, Nat.le_of_ble_eq_true rfl⟩ (by decide) rfl rfl rfl rfl (Nat.le_of_ble_eq_true rfl) rfl dX6_toss_2 ?_
  refine nx_istore_n (i := 2) (y := r2) (lv' := [(2, .int r2), (0, .ref (na B 63)), (1, .int x1)]) C0 dX6_toss_5 rfl (by decide) rfl rfl ?_
  refine nx_iload_n C0 0 dX6_toss_6 rfl ?_
  refine nx_if_eq (tgt := 12) C0 dX6_toss_7 (by decide) (fun q => ?_) (fun q => ?_)
  · have h := nift q h
    refine nx_aload_n C0 1 dX6_toss_12 rfl ?_
    refine nx_gX6_keptKind C0 hh0 hh1 dX6_toss_13 ?_
    refine nx_iload_n C0 2 dX6_toss_16 rfl ?_
    obtain ⟨g3, h⟩ := nguard h
    refine nx_iald C0 nI_73 g3 dX6_toss_17 ?_
    obtain ⟨v4, ev4, h⟩ := nlet h
    refine nx_istore_n (i := 3) (y := v4) (lv' := [(3, .int v4), (2, .int r2), (0, .ref (na B 63)), (1, .int x1)]) C0 dX6_toss_18 rfl (by decide) ev4 rfl ?_
    refine nx_aload_n C0 2 dX6_toss_19 rfl ?_
    refine nx_gX6_keptFigure C0 hh0 hh2 dX6_toss_20 ?_
    refine nx_iload_n C0 3 dX6_toss_23 rfl ?_
    obtain ⟨g5, h⟩ := nguard h
    refine nx_iald C0 nI_74 g5 dX6_toss_24 ?_
    obtain ⟨v6, ev6, h⟩ := nlet h
    refine nx_istore (i := 4) (y := v6) (lv' := [(4, .int v6), (3, .int v4), (2, .int r2), (0, .ref (na B 63)), (1, .int x1)]) C0 dX6_toss_25 (by decide) ev6 rfl ?_
    refine nx_iload_n C0 1 dX6_toss_27 rfl ?_
    refine nx_iconst (v := 3) C0 dX6_toss_28 (by decide) ?_
    refine nx_icmp_eq (tgt := 42) C0 dX6_toss_29 (by decide) (fun q => ?_) (fun q => ?_)
    · have h := nift q h
      refine nx_bipush (v := -15) C0 dX6_toss_42 (by decide) ?_
      exact nr_i C0 hr dX6_toss_44 h
    · have h := niff q h
      refine nx_iload_n C0 1 dX6_toss_32 rfl ?_
      refine nx_iconst (v := 4) C0 dX6_toss_33 (by decide) ?_
      refine nx_icmp_eq (tgt := 42) C0 dX6_toss_34 (by decide) (fun q => ?_) (fun q => ?_)
      · have h := nift q h
        refine nx_bipush (v := -15) C0 dX6_toss_42 (by decide) ?_
        exact nr_i C0 hr dX6_toss_44 h
      · have h := niff q h
        refine nx_iload C0 0 dX6_toss_37 rfl ?_
        refine nx_if_ne (tgt := 45) C0 dX6_toss_39 (by decide) (fun q => ?_) (fun q => ?_)
        · have h := niff q h
          refine nx_iload_n C0 1 dX6_toss_45 rfl ?_
          refine nx_bipush (v := 7) C0 dX6_toss_46 (by decide) ?_
          refine nx_icmp_ne (tgt := 64) C0 dX6_toss_48 (by decide) (fun q => ?_) (fun q => ?_)
          · have h := niff q h
            refine nx_iload_n C0 1 dX6_toss_64 rfl ?_
            refine nx_iconst (v := 2) C0 dX6_toss_65 (by decide) ?_
            refine nx_icmp_eq (tgt := 75) C0 dX6_toss_66 (by decide) (fun q => ?_) (fun q => ?_)
            · have h := nift q h
              refine nx_bipush (v := 100) C0 dX6_toss_75 (by decide) ?_
              refine nx_iload C0 0 dX6_toss_77 rfl ?_
              refine nx_iadd C0 dX6_toss_79 ?_
              refine nx_goto (tgt := 85) C0 dX6_toss_80 (by decide) ?_
              exact nr_i C0 hr dX6_toss_85 h
            · have h := niff q h
              refine nx_iload_n C0 1 dX6_toss_69 rfl ?_
              refine nx_bipush (v := 6) C0 dX6_toss_70 (by decide) ?_
              refine nx_icmp_ne (tgt := 83) C0 dX6_toss_72 (by decide) (fun q => ?_) (fun q => ?_)
              · have h := niff q h
                refine nx_iload C0 0 dX6_toss_83 rfl ?_
                exact nr_i C0 hr dX6_toss_85 h
              · have h := nift q h
                refine nx_bipush (v := 100) C0 dX6_toss_75 (by decide) ?_
                refine nx_iload C0 0 dX6_toss_77 rfl ?_
                refine nx_iadd C0 dX6_toss_79 ?_
                refine nx_goto (tgt := 85) C0 dX6_toss_80 (by decide) ?_
                exact nr_i C0 hr dX6_toss_85 h
          · have h := nift q h
            refine nx_sipush (v := 200) C0 dX6_toss_51 (by decide) ?_
            refine nx_iload_n C0 1 dX6_toss_54 rfl ?_
            refine nx_iload C0 0 dX6_toss_55 rfl ?_
            obtain ⟨r8, c7, h⟩ := nbind h
            refine nx_cSi (n := 2) (As := [.int v4, .int v6]) (st := [.int (200 : Int32)]) C0 (mX6_costBy l D B hB v4 v6 σ c7) gX6_toss_X6_costBy rfl rfl rfl ndX6_costBy ⟨Nat.le_of_ble_eq_true rfl, Nat.le_of_ble_eq_true rfl⟩ rfl (Nat.le_of_ble_eq_true rfl) rfl dX6_toss_57 ?_
            refine nx_iadd C0 dX6_toss_60 ?_
            refine nx_goto (tgt := 85) C0 dX6_toss_61 (by decide) ?_
            exact nr_i C0 hr dX6_toss_85 h
        · have h := nift q h
          refine nx_bipush (v := -15) C0 dX6_toss_42 (by decide) ?_
          exact nr_i C0 hr dX6_toss_44 h
  · have h := niff q h
    refine nx_iload_n C0 0 dX6_toss_10 rfl ?_
    exact nr_i C0 hr dX6_toss_11 h
