def rmX6_shortest : Room := { frames := 22, cells := 0, slots := 0, locals := 528 }
theorem ndX6_shortest : yX6_shortest.cls = RX6 ∧ yX6_shortest.cls ≠ "java/lang/invoke/MethodHandle" ∧ yX6_shortest.cls ≠ "java/lang/invoke/VarHandle" ∧ (parseMethodDescriptor yX6_shortest.desc).map (fun d => d.parameters.length) = some 2 := by decide +kernel
set_option maxRecDepth 100000 in
set_option maxHeartbeats 4000000 in
theorem mX6_shortest (l : Launch) (D : va_G) (B : nBT) (hB : nInj B) (x1 : Int32) (x2 : Int32) (σ : nS) {r : Int32} {σ1 : nS} (h : fX6_shortest x1 x2 σ = some (r, σ1)) : nMi l D B yX6_shortest wsX6_shortest rmX6_shortest [.ref (na B 63), .int x1, .int x2] σ r σ1 := by
  refine nmet (cc := cX6_shortest) (maxL := 5) (ret := (some .int)) (own := RX6) (av := [.ref (na B 63), .int x1, .int x2]) (nQi D B r σ1) hB (by decide) rfl rfl (Nat.le_of_ble_eq_true rfl) (fun p e s m args below meth c C0 hr => ?_)
  have hh0 : ∀ w ∈ wsX60, w ∈ wsX6_shortest := by decide +kernel
  have hh1 := C0.2.2.2.2.1 (Cond.fieldLink RX6 31 "NotInTheCoinModel" "list" "[I") (by decide +kernel)
  have hh2 := C0.2.2.2.2.1 (Cond.fieldLink RX6 193 "NotInTheCoinModel" "listRow" "I") (by decide +kernel)
  have hh3 := C0.2.2.2.2.1 (Cond.fieldLink RX6 46 "NotInTheCoinModel" "size" "[I") (by decide +kernel)
  have hh4 := C0.2.2.2.2.1 (Cond.fieldLink RX6 49 "NotInTheCoinModel" "element" "[I") (by decide +kernel)
  have hfX6_shortest_b111 : ∀  (n : Nat) (a2 : Int32) (a4 : Int32) (σ : nS) (h : fX6_shortest_b111  n a2 a4 σ = some (r, σ1)), nJ p l e rmX6_shortest s m args below meth c 0 0 (MQ below (nQi D B r σ1 s.heap.size) args s 0 0 (nA B s.heap.size)) D B 5 111 [(0, .ref (na B 63)), (2, .int a2), (4, .int a4)] [] σ := by
    intro  n
    induction n with
    | zero => intro a2 a4 σ h; cases h
    | succ n ih =>
        intro a2 a4 σ h
        rw [fX6_shortest_b111] at h
        refine nx_iload C0 2 dX6_shortest_111 rfl ?_
        refine nx_bipush (v := 8) C0 dX6_shortest_113 (by decide) ?_
        refine nx_icmp_gt (tgt := 151) C0 dX6_shortest_115 (by decide) (fun q => ?_) (fun q => ?_)
        · have h := nift q h
          refine nx_bipush (v := -4) C0 dX6_shortest_151 (by decide) ?_
          exact nr_i2 C0 hr dX6_shortest_153 h
        · have h := niff q h
          refine nx_aload_n C0 0 dX6_shortest_118 rfl ?_
          refine nx_iconst (v := 0) C0 dX6_shortest_119 (by decide) ?_
          refine nx_iload C0 2 dX6_shortest_120 rfl ?_
          refine nx_iconst (v := 0) C0 dX6_shortest_122 (by decide) ?_
          obtain ⟨r2, t3, c1, h⟩ := nbind2 h
          refine nx_cVi (ci := 6) (n := 3) (As := [.int (0 : Int32), .int a4, .int (0 : Int32)]) (st := []) C0 (mX6_isListed l D B hB 20 (0 : Int32) a4 (0 : Int32) σ c1) gX6_shortest_X6_isListed rfl rfl rfl ndX6_isListed ⟨Nat.le_of_ble_eq_true rfl, Nat.le_of_ble_eq_true rfl⟩ (by decide) rfl rfl rfl rfl (Nat.le_of_ble_eq_true rfl) rfl dX6_shortest_123 ?_
          refine nx_if_eq (tgt := 145) C0 dX6_shortest_126 (by decide) (fun q => ?_) (fun q => ?_)
          · have h := nift q h
            obtain ⟨v4, ev4, h⟩ := nlet h
            refine nx_iinc (v := v4) (lv' := [(4, .int v4), (0, .ref (na B 63)), (2, .int a2)]) C0 2 dX6_shortest_145 rfl ev4 (by decide) rfl ?_
            refine nx_goto (tgt := 111) C0 dX6_shortest_148 (by decide) ?_
            refine nx_lv (lv' := [(0, .ref (na B 63)), (2, .int a2), (4, .int v4)]) [1, 2, 0] rfl ?_
            exact ih a2 v4 t3 h
          · have h := niff q h
            refine nx_iload_n C0 1 dX6_shortest_129 rfl ?_
            refine nx_if_ge (tgt := 138) C0 dX6_shortest_130 (by decide) (fun q => ?_) (fun q => ?_)
            · have h := nift q h
              refine nx_aload_n C0 0 dX6_shortest_138 rfl ?_
              refine nx_gX6_list C0 hh0 hh1 dX6_shortest_139 ?_
              refine nx_iload_n C0 1 dX6_shortest_142 rfl ?_
              obtain ⟨g5, h⟩ := nguard h
              refine nx_iald C0 nI_71 g5 dX6_shortest_143 ?_
              exact nr_i2 C0 hr dX6_shortest_144 h
            · have h := niff q h
              refine nx_iload C0 2 dX6_shortest_133 rfl ?_
              refine nx_goto (tgt := 144) C0 dX6_shortest_135 (by decide) ?_
              exact nr_i2 C0 hr dX6_shortest_144 h
  have hfX6_shortest_b97 : ∀  (a1 : Int32) (a2 : Int32) (a3 : Int32) (σ : nS) (h : fX6_shortest_b97  a1 a2 a3 σ = some (r, σ1)), nJ p l e rmX6_shortest s m args below meth c 0 0 (MQ below (nQi D B r σ1 s.heap.size) args s 0 0 (nA B s.heap.size)) D B 5 97 [(0, .ref (na B 63)), (1, .int a1), (2, .int a2), (3, .int a3)] [] σ := by
    intro  a1 a2 a3 σ h
    rw [fX6_shortest_b97] at h
    refine nx_iload_n C0 3 dX6_shortest_97 rfl ?_
    refine nx_if_eq (tgt := 103) C0 dX6_shortest_98 (by decide) (fun q => ?_) (fun q => ?_)
    · have h := nift q h
      refine nx_aload_n C0 0 dX6_shortest_103 rfl ?_
      refine nx_iload_n C0 1 dX6_shortest_104 rfl ?_
      obtain ⟨t6, et6, h⟩ := nlet h
      refine nx_pX6_listRow C0 hh0 hh2 dX6_shortest_105 et6 ?_
      refine nx_iconst (v := 1) C0 dX6_shortest_108 (by decide) ?_
      refine nx_istore (i := 4) (y := (1 : Int32)) (lv' := [(4, .int (1 : Int32)), (0, .ref (na B 63)), (1, .int a1), (2, .int a2), (3, .int a3)]) C0 dX6_shortest_109 (by decide) rfl rfl ?_
      refine nx_lv (lv' := [(0, .ref (na B 63)), (2, .int a2), (4, .int (1 : Int32))]) [1, 3, 0] rfl ?_
      exact hfX6_shortest_b111 4096 a2 (1 : Int32) t6 h
    · have h := niff q h
      refine nx_iload_n C0 3 dX6_shortest_101 rfl ?_
      exact nr_i2 C0 hr dX6_shortest_102 h
  have hfX6_shortest_b82 : ∀ (s40 : Int32 → Int32 → Int32 → Int32 → nS → Option (Int32 × nS)) (hs40 : ∀ (a1 : Int32) (a2 : Int32) (a3 : Int32) (a4 : Int32) (σ : nS), s40 a1 a2 a3 a4 σ = some (r, σ1) → nJ p l e rmX6_shortest s m args below meth c 0 0 (MQ below (nQi D B r σ1 s.heap.size) args s 0 0 (nA B s.heap.size)) D B 5 40 [(0, .ref (na B 63)), (1, .int a1), (2, .int a2), (3, .int a3), (4, .int a4)] [] σ) (a1 : Int32) (a2 : Int32) (a3 : Int32) (a4 : Int32) (z0 : Int32) (z1 : Int32) (z2 : Int32) (σ : nS) (h : fX6_shortest_b82 s40 a1 a2 a3 a4 z0 z1 z2 σ = some (r, σ1)), nJ p l e rmX6_shortest s m args below meth c 0 0 (MQ below (nQi D B r σ1 s.heap.size) args s 0 0 (nA B s.heap.size)) D B 5 82 [(0, .ref (na B 63)), (1, .int a1), (2, .int a2), (3, .int a3), (4, .int a4)] [.int z0, .int z1, .int z2] σ := by
    intro s40 hs40 a1 a2 a3 a4 z0 z1 z2 σ h
    rw [fX6_shortest_b82] at h
    obtain ⟨r8, c7, h⟩ := nbind h
    refine nx_cSi (n := 3) (As := [.int z2, .int z1, .int z0]) (st := []) C0 (mX6_isIn l D B hB z2 z1 z0 σ c7) gX6_shortest_X6_isIn rfl rfl rfl ndX6_isIn ⟨Nat.le_of_ble_eq_true rfl, Nat.le_of_ble_eq_true rfl⟩ rfl (Nat.le_of_ble_eq_true rfl) rfl dX6_shortest_82 ?_
    refine nx_if_ne (tgt := 91) C0 dX6_shortest_85 (by decide) (fun q => ?_) (fun q => ?_)
    · have h := niff q h
      obtain ⟨v9, ev9, h⟩ := nlet h
      refine nx_iinc (v := v9) (lv' := [(4, .int v9), (0, .ref (na B 63)), (1, .int a1), (2, .int a2), (3, .int a3)]) C0 4 dX6_shortest_91 rfl ev9 (by decide) rfl ?_
      refine nx_goto (tgt := 40) C0 dX6_shortest_94 (by decide) ?_
      refine nx_lv (lv' := [(0, .ref (na B 63)), (1, .int a1), (2, .int a2), (3, .int a3), (4, .int v9)]) [1, 2, 3, 4, 0] rfl ?_
      exact hs40 a1 a2 a3 v9 σ h
    · have h := nift q h
      refine nx_bipush (v := -13) C0 dX6_shortest_88 (by decide) ?_
      refine nx_istore_n (i := 3) (y := (-13 : Int32)) (lv' := [(3, .int (-13 : Int32)), (0, .ref (na B 63)), (1, .int a1), (2, .int a2), (4, .int a4)]) C0 dX6_shortest_90 rfl (by decide) rfl rfl ?_
      obtain ⟨v10, ev10, h⟩ := nlet h
      refine nx_iinc (v := v10) (lv' := [(4, .int v10), (3, .int (-13 : Int32)), (0, .ref (na B 63)), (1, .int a1), (2, .int a2)]) C0 4 dX6_shortest_91 rfl ev10 (by decide) rfl ?_
      refine nx_goto (tgt := 40) C0 dX6_shortest_94 (by decide) ?_
      refine nx_lv (lv' := [(0, .ref (na B 63)), (1, .int a1), (2, .int a2), (3, .int (-13 : Int32)), (4, .int v10)]) [2, 3, 4, 1, 0] rfl ?_
      exact hs40 a1 a2 (-13 : Int32) v10 σ h
  have hfX6_shortest_b40 : ∀  (n : Nat) (a1 : Int32) (a2 : Int32) (a3 : Int32) (a4 : Int32) (σ : nS) (h : fX6_shortest_b40  n a1 a2 a3 a4 σ = some (r, σ1)), nJ p l e rmX6_shortest s m args below meth c 0 0 (MQ below (nQi D B r σ1 s.heap.size) args s 0 0 (nA B s.heap.size)) D B 5 40 [(0, .ref (na B 63)), (1, .int a1), (2, .int a2), (3, .int a3), (4, .int a4)] [] σ := by
    intro  n
    induction n with
    | zero => intro a1 a2 a3 a4 σ h; cases h
    | succ n ih =>
        intro a1 a2 a3 a4 σ h
        rw [fX6_shortest_b40] at h
        refine nx_iload_n C0 3 dX6_shortest_40 rfl ?_
        refine nx_if_ne (tgt := 97) C0 dX6_shortest_41 (by decide) (fun q => ?_) (fun q => ?_)
        · have h := niff q h
          refine nx_lv (lv' := [(0, .ref (na B 63)), (1, .int a1), (2, .int a2), (3, .int a3)]) [0, 1, 2, 3] rfl ?_
          exact hfX6_shortest_b97 a1 a2 a3 σ h
        · have h := nift q h
          refine nx_iload C0 4 dX6_shortest_44 rfl ?_
          refine nx_aload_n C0 0 dX6_shortest_46 rfl ?_
          refine nx_gX6_size C0 hh0 hh3 dX6_shortest_47 ?_
          refine nx_iload_n C0 1 dX6_shortest_50 rfl ?_
          obtain ⟨g11, h⟩ := nguard h
          refine nx_iald C0 nI_76 g11 dX6_shortest_51 ?_
          refine nx_icmp_ge (tgt := 97) C0 dX6_shortest_52 (by decide) (fun q => ?_) (fun q => ?_)
          · have h := nift q h
            refine nx_lv (lv' := [(0, .ref (na B 63)), (1, .int a1), (2, .int a2), (3, .int a3)]) [0, 1, 2, 3] rfl ?_
            exact hfX6_shortest_b97 a1 a2 a3 σ h
          · have h := niff q h
            refine nx_aload_n C0 0 dX6_shortest_55 rfl ?_
            refine nx_gX6_element C0 hh0 hh4 dX6_shortest_56 ?_
            refine nx_bipush (v := 100) C0 dX6_shortest_59 (by decide) ?_
            refine nx_iload_n C0 1 dX6_shortest_61 rfl ?_
            refine nx_imul C0 dX6_shortest_62 ?_
            refine nx_iload C0 4 dX6_shortest_63 rfl ?_
            refine nx_iadd C0 dX6_shortest_65 ?_
            obtain ⟨g12, h⟩ := nguard h
            refine nx_iald C0 nI_77 g12 dX6_shortest_66 ?_
            refine nx_iconst (v := 0) C0 dX6_shortest_67 (by decide) ?_
            refine nx_iload C0 4 dX6_shortest_68 rfl ?_
            refine nx_iconst (v := 3) C0 dX6_shortest_70 (by decide) ?_
            refine nx_irem C0 dX6_shortest_71 (by decide) ?_
            refine nx_iconst (v := 2) C0 dX6_shortest_72 (by decide) ?_
            refine nx_icmp_ne (tgt := 80) C0 dX6_shortest_73 (by decide) (fun q => ?_) (fun q => ?_)
            · have h := niff q h
              refine nx_bipush (v := 7) C0 dX6_shortest_80 (by decide) ?_
              exact hfX6_shortest_b82 (fX6_shortest_b40 n) ih a1 a2 a3 a4 (7 : Int32) (0 : Int32) (σ 77 ((((100 : Int32) * a1) + a4)).toNatClampNeg) σ h
            · have h := nift q h
              refine nx_iconst (v := 1) C0 dX6_shortest_76 (by decide) ?_
              refine nx_goto (tgt := 82) C0 dX6_shortest_77 (by decide) ?_
              exact hfX6_shortest_b82 (fX6_shortest_b40 n) ih a1 a2 a3 a4 (1 : Int32) (0 : Int32) (σ 77 ((((100 : Int32) * a1) + a4)).toNatClampNeg) σ h
  refine nx_lv (lv' := [(0, .ref (na B 63)), (1, .int x1), (2, .int x2)]) [0, 1, 2] rfl ?_
  rw [fX6_shortest] at h
  refine nx_iload_n C0 2 dX6_shortest_0 rfl ?_
  refine nx_iconst (v := -1) C0 dX6_shortest_1 (by decide) ?_
  refine nx_bipush (v := 7) C0 dX6_shortest_2 (by decide) ?_
  obtain ⟨r14, c13, h⟩ := nbind h
  refine nx_cSi (n := 3) (As := [.int x2, .int (-1 : Int32), .int (7 : Int32)]) (st := []) C0 (mX6_isIn l D B hB x2 (-1 : Int32) (7 : Int32) σ c13) gX6_shortest_X6_isIn rfl rfl rfl ndX6_isIn ⟨Nat.le_of_ble_eq_true rfl, Nat.le_of_ble_eq_true rfl⟩ rfl (Nat.le_of_ble_eq_true rfl) rfl dX6_shortest_4 ?_
  refine nx_if_ne (tgt := 12) C0 dX6_shortest_7 (by decide) (fun q => ?_) (fun q => ?_)
  · have h := niff q h
    refine nx_aload_n C0 0 dX6_shortest_12 rfl ?_
    refine nx_iload_n C0 1 dX6_shortest_13 rfl ?_
    refine nx_iconst (v := -1) C0 dX6_shortest_14 (by decide) ?_
    obtain ⟨r16, c15, h⟩ := nbind h
    refine nx_cVi (ci := 6) (n := 2) (As := [.int x1, .int (-1 : Int32)]) (st := []) C0 (mX6_wrongRow l D B hB x1 (-1 : Int32) σ c15) gX6_shortest_X6_wrongRow rfl rfl rfl ndX6_wrongRow ⟨Nat.le_of_ble_eq_true rfl, Nat.le_of_ble_eq_true rfl⟩ (by decide) rfl rfl rfl rfl (Nat.le_of_ble_eq_true rfl) rfl dX6_shortest_15 ?_
    refine nx_istore_n (i := 3) (y := r16) (lv' := [(3, .int r16), (0, .ref (na B 63)), (1, .int x1), (2, .int x2)]) C0 dX6_shortest_18 rfl (by decide) rfl rfl ?_
    refine nx_iload_n C0 0 dX6_shortest_19 rfl ?_
    refine nx_if_ne (tgt := 37) C0 dX6_shortest_20 (by decide) (fun q => ?_) (fun q => ?_)
    · have h := niff q h
      refine nx_iconst (v := 0) C0 dX6_shortest_37 (by decide) ?_
      refine nx_istore (i := 4) (y := (0 : Int32)) (lv' := [(4, .int (0 : Int32)), (3, .int r16), (0, .ref (na B 63)), (1, .int x1), (2, .int x2)]) C0 dX6_shortest_38 (by decide) rfl rfl ?_
      refine nx_lv (lv' := [(0, .ref (na B 63)), (1, .int x1), (2, .int x2), (3, .int r16), (4, .int (0 : Int32))]) [2, 3, 4, 1, 0] rfl ?_
      exact hfX6_shortest_b40 4096 x1 x2 r16 (0 : Int32) σ h
    · have h := nift q h
      refine nx_aload_n C0 1 dX6_shortest_23 rfl ?_
      refine nx_gX6_size C0 hh0 hh3 dX6_shortest_24 ?_
      refine nx_iload_n C0 2 dX6_shortest_27 rfl ?_
      obtain ⟨g17, h⟩ := nguard h
      refine nx_iald C0 nI_76 g17 dX6_shortest_28 ?_
      refine nx_iconst (v := 3) C0 dX6_shortest_29 (by decide) ?_
      refine nx_irem C0 dX6_shortest_30 (by decide) ?_
      refine nx_if_eq (tgt := 37) C0 dX6_shortest_31 (by decide) (fun q => ?_) (fun q => ?_)
      · have h := nift q h
        refine nx_iconst (v := 0) C0 dX6_shortest_37 (by decide) ?_
        refine nx_istore (i := 4) (y := (0 : Int32)) (lv' := [(4, .int (0 : Int32)), (3, .int r16), (0, .ref (na B 63)), (1, .int x1), (2, .int x2)]) C0 dX6_shortest_38 (by decide) rfl rfl ?_
        refine nx_lv (lv' := [(0, .ref (na B 63)), (1, .int x1), (2, .int x2), (3, .int r16), (4, .int (0 : Int32))]) [2, 3, 4, 1, 0] rfl ?_
        exact hfX6_shortest_b40 4096 x1 x2 r16 (0 : Int32) σ h
      · have h := niff q h
        refine nx_bipush (v := -13) C0 dX6_shortest_34 (by decide) ?_
        refine nx_istore_n (i := 3) (y := (-13 : Int32)) (lv' := [(3, .int (-13 : Int32)), (0, .ref (na B 63)), (1, .int x1), (2, .int x2)]) C0 dX6_shortest_36 rfl (by decide) rfl rfl ?_
        refine nx_iconst (v := 0) C0 dX6_shortest_37 (by decide) ?_
        refine nx_istore (i := 4) (y := (0 : Int32)) (lv' := [(4, .int (0 : Int32)), (3, .int (-13 : Int32)), (0, .ref (na B 63)), (1, .int x1), (2, .int x2)]) C0 dX6_shortest_38 (by decide) rfl rfl ?_
        refine nx_lv (lv' := [(0, .ref (na B 63)), (1, .int x1), (2, .int x2), (3, .int (-13 : Int32)), (4, .int (0 : Int32))]) [2, 3, 4, 1, 0] rfl ?_
        exact hfX6_shortest_b40 4096 x1 x2 (-13 : Int32) (0 : Int32) σ h
  · have h := nift q h
    refine nx_iconst (v := -1) C0 dX6_shortest_10 (by decide) ?_
    exact nr_i2 C0 hr dX6_shortest_11 h
def rmX6_leastOf : Room := { frames := 0, cells := 0, slots := 0, locals := 0 }
theorem ndX6_leastOf : yX6_leastOf.cls ≠ "java/lang/invoke/MethodHandle" ∧ yX6_leastOf.cls ≠ "java/lang/invoke/VarHandle" ∧ (parseMethodDescriptor yX6_leastOf.desc).map (fun d => d.parameters.length) = some 1 := by decide +kernel
set_option maxRecDepth 100000 in
set_option maxHeartbeats 4000000 in
theorem mX6_leastOf (l : Launch) (D : va_G) (B : nBT) (hB : nInj B) (x0 : Int32) (σ : nS) {r : Int32}  (h : fX6_leastOf x0 σ = some r) : nMi l D B yX6_leastOf wsX6_leastOf rmX6_leastOf [.int x0] σ r σ := by
  refine nmet (cc := cX6_leastOf) (maxL := 1) (ret := (some .int)) (own := RX6) (av := [.int x0]) (nQi D B r σ) hB (by decide) rfl rfl (Nat.le_of_ble_eq_true rfl) (fun p e s m args below meth c C0 hr => ?_)
  have hh0 := C0.2.2.2.2.1 (Cond.constant RX6 202 (-2147483648)) (by decide +kernel)
  refine nx_lv (lv' := [(0, .int x0)]) [0] rfl ?_
  rw [fX6_leastOf] at h
  refine nx_iload_n C0 0 dX6_leastOf_0 rfl ?_
  refine nx_if_ne (tgt := 9) C0 dX6_leastOf_1 (by decide) (fun q => ?_) (fun q => ?_)
  · have h := niff q h
    refine nx_iload_n C0 0 dX6_leastOf_9 rfl ?_
    refine nx_iconst (v := 1) C0 dX6_leastOf_10 (by decide) ?_
    refine nx_icmp_ne (tgt := 20) C0 dX6_leastOf_11 (by decide) (fun q => ?_) (fun q => ?_)
    · have h := niff q h
      refine nx_ldc (v := -2147483648) C0 dX6_leastOf_20 hh0 ?_
      exact nr_i C0 hr dX6_leastOf_22 h
    · have h := nift q h
      refine nx_sipush (v := -32768) C0 dX6_leastOf_14 (by decide) ?_
      refine nx_goto (tgt := 22) C0 dX6_leastOf_17 (by decide) ?_
      exact nr_i C0 hr dX6_leastOf_22 h
  · have h := nift q h
    refine nx_bipush (v := -128) C0 dX6_leastOf_4 (by decide) ?_
    refine nx_goto (tgt := 22) C0 dX6_leastOf_6 (by decide) ?_
    exact nr_i C0 hr dX6_leastOf_22 h
def rmX6_lent : Room := { frames := 4, cells := 0, slots := 0, locals := 90 }
theorem ndX6_lent : yX6_lent.cls = RX6 ∧ yX6_lent.cls ≠ "java/lang/invoke/MethodHandle" ∧ yX6_lent.cls ≠ "java/lang/invoke/VarHandle" ∧ (parseMethodDescriptor yX6_lent.desc).map (fun d => d.parameters.length) = some 3 := by decide +kernel
set_option maxRecDepth 100000 in
set_option maxHeartbeats 4000000 in
theorem mX6_lent (l : Launch) (D : va_G) (B : nBT) (hB : nInj B) (x1 : Int32) (x2 : Int32) (x3 : Int32) (σ : nS) {r : Int32}  (h : fX6_lent x1 x2 x3 σ = some r) : nMi l D B yX6_lent wsX6_lent rmX6_lent [.ref (na B 63), .int x1, .int x2, .int x3] σ r σ := by
  refine nmet (cc := cX6_lent) (maxL := 9) (ret := (some .int)) (own := RX6) (av := [.ref (na B 63), .int x1, .int x2, .int x3]) (nQi D B r σ) hB (by decide) rfl rfl (Nat.le_of_ble_eq_true rfl) (fun p e s m args below meth c C0 hr => ?_)
  have hh0 : ∀ w ∈ wsX60, w ∈ wsX6_lent := by decide +kernel
  have hh1 := C0.2.2.2.2.1 (Cond.fieldLink RX6 46 "NotInTheCoinModel" "size" "[I") (by decide +kernel)
  have hh2 := C0.2.2.2.2.1 (Cond.fieldLink RX6 49 "NotInTheCoinModel" "element" "[I") (by decide +kernel)
  have hh3 := C0.2.2.2.2.1 (Cond.fieldLink RX6 9 "NotInTheCoinModel" "s" "[I") (by decide +kernel)
  have hfX6_lent_b106 : ∀ (s89 : Int32 → Int32 → Int32 → Int32 → Int32 → nS → Option Int32) (hs89 : ∀ (a1 : Int32) (a2 : Int32) (a3 : Int32) (a5 : Int32) (a6 : Int32), s89 a1 a2 a3 a5 a6 σ = some r → nJ p l e rmX6_lent s m args below meth c 0 0 (MQ below (nQi D B r σ s.heap.size) args s 0 0 (nA B s.heap.size)) D B 9 89 [(0, .ref (na B 63)), (1, .int a1), (2, .int a2), (3, .int a3), (5, .int a5), (6, .int a6)] [] σ) (n : Nat) (a1 : Int32) (a2 : Int32) (a3 : Int32) (a5 : Int32) (a6 : Int32) (a7 : Int32) (a8 : Int32) (h : fX6_lent_b106 s89 n a1 a2 a3 a5 a6 a7 a8 σ = some r), nJ p l e rmX6_lent s m args below meth c 0 0 (MQ below (nQi D B r σ s.heap.size) args s 0 0 (nA B s.heap.size)) D B 9 106 [(0, .ref (na B 63)), (1, .int a1), (2, .int a2), (3, .int a3), (5, .int a5), (6, .int a6), (7, .int a7), (8, .int a8)] [] σ := by
    intro s89 hs89 n
    induction n with
    | zero => intro a1 a2 a3 a5 a6 a7 a8 h; cases h
    | succ n ih =>
        intro a1 a2 a3 a5 a6 a7 a8 h
        rw [fX6_lent_b106] at h
        refine nx_iload C0 7 dX6_lent_106 rfl ?_
        refine nx_aload_n C0 0 dX6_lent_108 rfl ?_
        refine nx_gX6_size C0 hh0 hh1 dX6_lent_109 ?_
        refine nx_iload_n C0 1 dX6_lent_112 rfl ?_
        obtain ⟨g1, h⟩ := nguard h
        refine nx_iald C0 nI_76 g1 dX6_lent_113 ?_
        refine nx_icmp_ge (tgt := 175) C0 dX6_lent_114 (by decide) (fun q => ?_) (fun q => ?_)
        · have h := nift q h
          refine nx_iload C0 4 dX6_lent_175 rfl ?_
          refine nx_iload C0 6 dX6_lent_177 rfl ?_
          refine nx_if_eq (tgt := 189) C0 dX6_lent_179 (by decide) (fun q => ?_) (fun q => ?_)
          · have h := nift q h
            refine nx_iconst (v := 0) C0 dX6_lent_189 (by decide) ?_
            refine nx_ior C0 dX6_lent_190 ?_
            obtain ⟨v2, ev2, h⟩ := nlet h
            refine nx_istore (i := 5) (y := v2) (lv' := [(5, .int v2), (0, .ref (na B 63)), (1, .int a1), (2, .int a2), (3, .int a3), (6, .int a6), (7, .int a7), (8, .int a8)]) C0 dX6_lent_191 (by decide) ev2 rfl ?_
            obtain ⟨v3, ev3, h⟩ := nlet h
            refine nx_iinc (v := v3) (lv' := [(6, .int v3), (5, .int v2), (0, .ref (na B 63)), (1, .int a1), (2, .int a2), (3, .int a3), (7, .int a7), (8, .int a8)]) C0 5 dX6_lent_193 rfl ev3 (by decide) rfl ?_
            refine nx_goto (tgt := 89) C0 dX6_lent_196 (by decide) ?_
            refine nx_lv (lv' := [(0, .ref (na B 63)), (1, .int a1), (2, .int a2), (3, .int a3), (5, .int v2), (6, .int v3)]) [2, 3, 4, 5, 1, 0] rfl ?_
            exact hs89 a1 a2 a3 v2 v3 h
          · have h := niff q h
            refine nx_iconst (v := 1) C0 dX6_lent_182 (by decide) ?_
            refine nx_iload C0 5 dX6_lent_183 rfl ?_
            refine nx_ishl C0 dX6_lent_185 ?_
            refine nx_goto (tgt := 190) C0 dX6_lent_186 (by decide) ?_
            refine nx_ior C0 dX6_lent_190 ?_
            obtain ⟨v4, ev4, h⟩ := nlet h
            refine nx_istore (i := 5) (y := v4) (lv' := [(5, .int v4), (0, .ref (na B 63)), (1, .int a1), (2, .int a2), (3, .int a3), (6, .int a6), (7, .int a7), (8, .int a8)]) C0 dX6_lent_191 (by decide) ev4 rfl ?_
            obtain ⟨v5, ev5, h⟩ := nlet h
            refine nx_iinc (v := v5) (lv' := [(6, .int v5), (5, .int v4), (0, .ref (na B 63)), (1, .int a1), (2, .int a2), (3, .int a3), (7, .int a7), (8, .int a8)]) C0 5 dX6_lent_193 rfl ev5 (by decide) rfl ?_
            refine nx_goto (tgt := 89) C0 dX6_lent_196 (by decide) ?_
            refine nx_lv (lv' := [(0, .ref (na B 63)), (1, .int a1), (2, .int a2), (3, .int a3), (5, .int v4), (6, .int v5)]) [2, 3, 4, 5, 1, 0] rfl ?_
            exact hs89 a1 a2 a3 v4 v5 h
        · have h := niff q h
          refine nx_iload C0 6 dX6_lent_117 rfl ?_
          refine nx_aload_n C0 0 dX6_lent_119 rfl ?_
          refine nx_gX6_element C0 hh0 hh2 dX6_lent_120 ?_
          refine nx_bipush (v := 100) C0 dX6_lent_123 (by decide) ?_
          refine nx_iload_n C0 1 dX6_lent_125 rfl ?_
          refine nx_imul C0 dX6_lent_126 ?_
          refine nx_iload C0 7 dX6_lent_127 rfl ?_
          refine nx_iadd C0 dX6_lent_129 ?_
          obtain ⟨g6, h⟩ := nguard h
          refine nx_iald C0 nI_77 g6 dX6_lent_130 ?_
          refine nx_iload C0 5 dX6_lent_131 rfl ?_
          refine nx_icmp_eq (tgt := 165) C0 dX6_lent_133 (by decide) (fun q => ?_) (fun q => ?_)
          · have h := nift q h
            refine nx_iconst (v := 0) C0 dX6_lent_165 (by decide) ?_
            refine nx_iand C0 dX6_lent_166 ?_
            obtain ⟨v7, ev7, h⟩ := nlet h
            refine nx_istore (i := 7) (y := v7) (lv' := [(7, .int v7), (0, .ref (na B 63)), (1, .int a1), (2, .int a2), (3, .int a3), (5, .int a5), (6, .int a6), (8, .int a8)]) C0 dX6_lent_167 (by decide) ev7 rfl ?_
            obtain ⟨v8, ev8, h⟩ := nlet h
            refine nx_iinc (v := v8) (lv' := [(8, .int v8), (7, .int v7), (0, .ref (na B 63)), (1, .int a1), (2, .int a2), (3, .int a3), (5, .int a5), (6, .int a6)]) C0 7 dX6_lent_169 rfl ev8 (by decide) rfl ?_
            refine nx_goto (tgt := 106) C0 dX6_lent_172 (by decide) ?_
            refine nx_lv (lv' := [(0, .ref (na B 63)), (1, .int a1), (2, .int a2), (3, .int a3), (5, .int a5), (6, .int a6), (7, .int v7), (8, .int v8)]) [2, 3, 4, 5, 6, 7, 1, 0] rfl ?_
            exact ih a1 a2 a3 a5 a6 v7 v8 h
          · have h := niff q h
            refine nx_aload_n C0 0 dX6_lent_136 rfl ?_
            refine nx_gX6_s C0 hh0 hh3 dX6_lent_137 ?_
            refine nx_iload_n C0 2 dX6_lent_140 rfl ?_
            refine nx_iload C0 5 dX6_lent_141 rfl ?_
            refine nx_aload_n C0 0 dX6_lent_143 rfl ?_
            refine nx_gX6_element C0 hh0 hh2 dX6_lent_144 ?_
            refine nx_bipush (v := 100) C0 dX6_lent_147 (by decide) ?_
            refine nx_iload_n C0 1 dX6_lent_149 rfl ?_
            refine nx_imul C0 dX6_lent_150 ?_
            refine nx_iload C0 7 dX6_lent_151 rfl ?_
            refine nx_iadd C0 dX6_lent_153 ?_
            obtain ⟨g9, h⟩ := nguard h
            refine nx_iald C0 nI_77 g9 dX6_lent_154 ?_
            obtain ⟨r11, c10, h⟩ := nbind h
            refine nx_cSi (n := 4) (As := [.ref (na B 64), .int a2, .int a6, .int (σ 77 ((((100 : Int32) * a1) + a8)).toNatClampNeg)]) (st := [.int a7]) C0 (mX6_wouldIn l D B hB nR64 a2 a6 (σ 77 ((((100 : Int32) * a1) + a8)).toNatClampNeg) σ c10) gX6_lent_X6_wouldIn rfl rfl rfl ndX6_wouldIn ⟨Nat.le_of_ble_eq_true rfl, Nat.le_of_ble_eq_true rfl⟩ rfl (Nat.le_of_ble_eq_true rfl) rfl dX6_lent_155 ?_
            refine nx_if_eq (tgt := 165) C0 dX6_lent_158 (by decide) (fun q => ?_) (fun q => ?_)
            · have h := nift q h
              refine nx_iconst (v := 0) C0 dX6_lent_165 (by decide) ?_
              refine nx_iand C0 dX6_lent_166 ?_
              obtain ⟨v12, ev12, h⟩ := nlet h
              refine nx_istore (i := 7) (y := v12) (lv' := [(7, .int v12), (0, .ref (na B 63)), (1, .int a1), (2, .int a2), (3, .int a3), (5, .int a5), (6, .int a6), (8, .int a8)]) C0 dX6_lent_167 (by decide) ev12 rfl ?_
              obtain ⟨v13, ev13, h⟩ := nlet h
              refine nx_iinc (v := v13) (lv' := [(8, .int v13), (7, .int v12), (0, .ref (na B 63)), (1, .int a1), (2, .int a2), (3, .int a3), (5, .int a5), (6, .int a6)]) C0 7 dX6_lent_169 rfl ev13 (by decide) rfl ?_
              refine nx_goto (tgt := 106) C0 dX6_lent_172 (by decide) ?_
              refine nx_lv (lv' := [(0, .ref (na B 63)), (1, .int a1), (2, .int a2), (3, .int a3), (5, .int a5), (6, .int a6), (7, .int v12), (8, .int v13)]) [2, 3, 4, 5, 6, 7, 1, 0] rfl ?_
              exact ih a1 a2 a3 a5 a6 v12 v13 h
            · have h := niff q h
              refine nx_iconst (v := 1) C0 dX6_lent_161 (by decide) ?_
              refine nx_goto (tgt := 166) C0 dX6_lent_162 (by decide) ?_
              refine nx_iand C0 dX6_lent_166 ?_
              obtain ⟨v14, ev14, h⟩ := nlet h
              refine nx_istore (i := 7) (y := v14) (lv' := [(7, .int v14), (0, .ref (na B 63)), (1, .int a1), (2, .int a2), (3, .int a3), (5, .int a5), (6, .int a6), (8, .int a8)]) C0 dX6_lent_167 (by decide) ev14 rfl ?_
              obtain ⟨v15, ev15, h⟩ := nlet h
              refine nx_iinc (v := v15) (lv' := [(8, .int v15), (7, .int v14), (0, .ref (na B 63)), (1, .int a1), (2, .int a2), (3, .int a3), (5, .int a5), (6, .int a6)]) C0 7 dX6_lent_169 rfl ev15 (by decide) rfl ?_
              refine nx_goto (tgt := 106) C0 dX6_lent_172 (by decide) ?_
              refine nx_lv (lv' := [(0, .ref (na B 63)), (1, .int a1), (2, .int a2), (3, .int a3), (5, .int a5), (6, .int a6), (7, .int v14), (8, .int v15)]) [2, 3, 4, 5, 6, 7, 1, 0] rfl ?_
              exact ih a1 a2 a3 a5 a6 v14 v15 h
  have hfX6_lent_b89 : ∀  (n : Nat) (a1 : Int32) (a2 : Int32) (a3 : Int32) (a5 : Int32) (a6 : Int32) (h : fX6_lent_b89  n a1 a2 a3 a5 a6 σ = some r), nJ p l e rmX6_lent s m args below meth c 0 0 (MQ below (nQi D B r σ s.heap.size) args s 0 0 (nA B s.heap.size)) D B 9 89 [(0, .ref (na B 63)), (1, .int a1), (2, .int a2), (3, .int a3), (5, .int a5), (6, .int a6)] [] σ := by
    intro  n
    induction n with
    | zero => intro a1 a2 a3 a5 a6 h; cases h
    | succ n ih =>
        intro a1 a2 a3 a5 a6 h
        rw [fX6_lent_b89] at h
        refine nx_iload C0 5 dX6_lent_89 rfl ?_
        refine nx_aload_n C0 0 dX6_lent_91 rfl ?_
        refine nx_gX6_s C0 hh0 hh3 dX6_lent_92 ?_
        refine nx_iconst (v := 0) C0 dX6_lent_95 (by decide) ?_
        obtain ⟨g16, h⟩ := nguard h
        refine nx_iald C0 nI_64 g16 dX6_lent_96 ?_
        refine nx_icmp_ge (tgt := 199) C0 dX6_lent_97 (by decide) (fun q => ?_) (fun q => ?_)
        · have h := nift q h
          refine nx_iload_n C0 3 dX6_lent_199 rfl ?_
          refine nx_if_ne (tgt := 208) C0 dX6_lent_200 (by decide) (fun q => ?_) (fun q => ?_)
          · have h := niff q h
            refine nx_iload C0 4 dX6_lent_208 rfl ?_
            obtain ⟨r18, c17, h⟩ := nbind h
            refine nx_cSi (n := 1) (As := [.int a5]) (st := []) C0 (mX6_bits l D B hB a5 σ c17) gX6_lent_X6_bits rfl rfl rfl ndX6_bits ⟨Nat.le_of_ble_eq_true rfl, Nat.le_of_ble_eq_true rfl⟩ rfl (Nat.le_of_ble_eq_true rfl) rfl dX6_lent_210 ?_
            exact nr_i C0 hr dX6_lent_213 h
          · have h := nift q h
            refine nx_iload C0 4 dX6_lent_203 rfl ?_
            refine nx_goto (tgt := 213) C0 dX6_lent_205 (by decide) ?_
            exact nr_i C0 hr dX6_lent_213 h
        · have h := niff q h
          refine nx_iconst (v := 1) C0 dX6_lent_100 (by decide) ?_
          refine nx_istore (i := 7) (y := (1 : Int32)) (lv' := [(7, .int (1 : Int32)), (0, .ref (na B 63)), (1, .int a1), (2, .int a2), (3, .int a3), (5, .int a5), (6, .int a6)]) C0 dX6_lent_101 (by decide) rfl rfl ?_
          refine nx_iconst (v := 0) C0 dX6_lent_103 (by decide) ?_
          refine nx_istore (i := 8) (y := (0 : Int32)) (lv' := [(8, .int (0 : Int32)), (7, .int (1 : Int32)), (0, .ref (na B 63)), (1, .int a1), (2, .int a2), (3, .int a3), (5, .int a5), (6, .int a6)]) C0 dX6_lent_104 (by decide) rfl rfl ?_
          refine nx_lv (lv' := [(0, .ref (na B 63)), (1, .int a1), (2, .int a2), (3, .int a3), (5, .int a5), (6, .int a6), (7, .int (1 : Int32)), (8, .int (0 : Int32))]) [2, 3, 4, 5, 6, 7, 1, 0] rfl ?_
          exact hfX6_lent_b106 (fX6_lent_b89 n) ih 4096 a1 a2 a3 a5 a6 (1 : Int32) (0 : Int32) h
  have hfX6_lent_b75 : ∀  (a1 : Int32) (a2 : Int32) (a3 : Int32) (a4 : Int32) (h : fX6_lent_b75  a1 a2 a3 a4 σ = some r), nJ p l e rmX6_lent s m args below meth c 0 0 (MQ below (nQi D B r σ s.heap.size) args s 0 0 (nA B s.heap.size)) D B 9 75 [(0, .ref (na B 63)), (1, .int a1), (2, .int a2), (3, .int a3), (4, .int a4)] [] σ := by
    intro  a1 a2 a3 a4 h
    rw [fX6_lent_b75] at h
    refine nx_iload C0 4 dX6_lent_75 rfl ?_
    refine nx_if_eq (tgt := 83) C0 dX6_lent_77 (by decide) (fun q => ?_) (fun q => ?_)
    · have h := nift q h
      refine nx_iconst (v := 0) C0 dX6_lent_83 (by decide) ?_
      refine nx_istore (i := 5) (y := (0 : Int32)) (lv' := [(5, .int (0 : Int32)), (0, .ref (na B 63)), (1, .int a1), (2, .int a2), (3, .int a3), (4, .int a4)]) C0 dX6_lent_84 (by decide) rfl rfl ?_
      refine nx_iconst (v := 0) C0 dX6_lent_86 (by decide) ?_
      refine nx_istore (i := 6) (y := (0 : Int32)) (lv' := [(6, .int (0 : Int32)), (5, .int (0 : Int32)), (0, .ref (na B 63)), (1, .int a1), (2, .int a2), (3, .int a3), (4, .int a4)]) C0 dX6_lent_87 (by decide) rfl rfl ?_
      refine nx_lv (lv' := [(0, .ref (na B 63)), (1, .int a1), (2, .int a2), (3, .int a3), (5, .int (0 : Int32)), (6, .int (0 : Int32))]) [2, 3, 4, 5, 1, 0] rfl ?_
      exact hfX6_lent_b89 4096 a1 a2 a3 (0 : Int32) (0 : Int32) h
    · have h := niff q h
      refine nx_iload C0 4 dX6_lent_80 rfl ?_
      exact nr_i C0 hr dX6_lent_82 h
  have hfX6_lent_b30 : ∀  (n : Nat) (a1 : Int32) (a2 : Int32) (a3 : Int32) (a4 : Int32) (a5 : Int32) (h : fX6_lent_b30  n a1 a2 a3 a4 a5 σ = some r), nJ p l e rmX6_lent s m args below meth c 0 0 (MQ below (nQi D B r σ s.heap.size) args s 0 0 (nA B s.heap.size)) D B 9 30 [(0, .ref (na B 63)), (1, .int a1), (2, .int a2), (3, .int a3), (4, .int a4), (5, .int a5)] [] σ := by
    intro  n
    induction n with
    | zero => intro a1 a2 a3 a4 a5 h; cases h
    | succ n ih =>
        intro a1 a2 a3 a4 a5 h
        rw [fX6_lent_b30] at h
        refine nx_iload C0 4 dX6_lent_30 rfl ?_
        refine nx_if_ne (tgt := 75) C0 dX6_lent_32 (by decide) (fun q => ?_) (fun q => ?_)
        · have h := niff q h
          refine nx_lv (lv' := [(0, .ref (na B 63)), (1, .int a1), (2, .int a2), (3, .int a3), (4, .int a4)]) [0, 1, 2, 3, 4] rfl ?_
          exact hfX6_lent_b75 a1 a2 a3 a4 h
        · have h := nift q h
          refine nx_iload C0 5 dX6_lent_35 rfl ?_
          refine nx_aload_n C0 0 dX6_lent_37 rfl ?_
          refine nx_gX6_size C0 hh0 hh1 dX6_lent_38 ?_
          refine nx_iload_n C0 1 dX6_lent_41 rfl ?_
          obtain ⟨g19, h⟩ := nguard h
          refine nx_iald C0 nI_76 g19 dX6_lent_42 ?_
          refine nx_icmp_ge (tgt := 75) C0 dX6_lent_43 (by decide) (fun q => ?_) (fun q => ?_)
          · have h := nift q h
            refine nx_lv (lv' := [(0, .ref (na B 63)), (1, .int a1), (2, .int a2), (3, .int a3), (4, .int a4)]) [0, 1, 2, 3, 4] rfl ?_
            exact hfX6_lent_b75 a1 a2 a3 a4 h
          · have h := niff q h
            refine nx_aload_n C0 0 dX6_lent_46 rfl ?_
            refine nx_aload_n C0 0 dX6_lent_47 rfl ?_
            refine nx_gX6_element C0 hh0 hh2 dX6_lent_48 ?_
            refine nx_bipush (v := 100) C0 dX6_lent_51 (by decide) ?_
            refine nx_iload_n C0 1 dX6_lent_53 rfl ?_
            refine nx_imul C0 dX6_lent_54 ?_
            refine nx_iload C0 5 dX6_lent_55 rfl ?_
            refine nx_iadd C0 dX6_lent_57 ?_
            obtain ⟨g20, h⟩ := nguard h
            refine nx_iald C0 nI_77 g20 dX6_lent_58 ?_
            obtain ⟨r22, c21, h⟩ := nbind h
            refine nx_cVi (ci := 6) (n := 1) (As := [.int (σ 77 ((((100 : Int32) * a1) + a5)).toNatClampNeg)]) (st := []) C0 (mX6_isGood l D B hB (σ 77 ((((100 : Int32) * a1) + a5)).toNatClampNeg) σ c21) gX6_lent_X6_isGood rfl rfl rfl ndX6_isGood ⟨Nat.le_of_ble_eq_true rfl, Nat.le_of_ble_eq_true rfl⟩ (by decide) rfl rfl rfl rfl (Nat.le_of_ble_eq_true rfl) rfl dX6_lent_59 ?_
            refine nx_if_ne (tgt := 69) C0 dX6_lent_62 (by decide) (fun q => ?_) (fun q => ?_)
            · have h := niff q h
              obtain ⟨v23, ev23, h⟩ := nlet h
              refine nx_iinc (v := v23) (lv' := [(5, .int v23), (0, .ref (na B 63)), (1, .int a1), (2, .int a2), (3, .int a3), (4, .int a4)]) C0 5 dX6_lent_69 rfl ev23 (by decide) rfl ?_
              refine nx_goto (tgt := 30) C0 dX6_lent_72 (by decide) ?_
              refine nx_lv (lv' := [(0, .ref (na B 63)), (1, .int a1), (2, .int a2), (3, .int a3), (4, .int a4), (5, .int v23)]) [1, 2, 3, 4, 5, 0] rfl ?_
              exact ih a1 a2 a3 a4 v23 h
            · have h := nift q h
              refine nx_bipush (v := -13) C0 dX6_lent_65 (by decide) ?_
              refine nx_istore (i := 4) (y := (-13 : Int32)) (lv' := [(4, .int (-13 : Int32)), (0, .ref (na B 63)), (1, .int a1), (2, .int a2), (3, .int a3), (5, .int a5)]) C0 dX6_lent_67 (by decide) rfl rfl ?_
              obtain ⟨v24, ev24, h⟩ := nlet h
              refine nx_iinc (v := v24) (lv' := [(5, .int v24), (4, .int (-13 : Int32)), (0, .ref (na B 63)), (1, .int a1), (2, .int a2), (3, .int a3)]) C0 5 dX6_lent_69 rfl ev24 (by decide) rfl ?_
              refine nx_goto (tgt := 30) C0 dX6_lent_72 (by decide) ?_
              refine nx_lv (lv' := [(0, .ref (na B 63)), (1, .int a1), (2, .int a2), (3, .int a3), (4, .int (-13 : Int32)), (5, .int v24)]) [2, 3, 4, 5, 1, 0] rfl ?_
              exact ih a1 a2 a3 (-13 : Int32) v24 h
  refine nx_lv (lv' := [(0, .ref (na B 63)), (1, .int x1), (2, .int x2), (3, .int x3)]) [0, 1, 2, 3] rfl ?_
  rw [fX6_lent] at h
  refine nx_aload_n C0 0 dX6_lent_0 rfl ?_
  refine nx_iload_n C0 2 dX6_lent_1 rfl ?_
  obtain ⟨r26, c25, h⟩ := nbind h
  refine nx_cVi (ci := 6) (n := 1) (As := [.int x2]) (st := []) C0 (mX6_isPerson l D B hB x2 σ c25) gX6_lent_X6_isPerson rfl rfl rfl ndX6_isPerson ⟨Nat.le_of_ble_eq_true rfl, Nat.le_of_ble_eq_true rfl⟩ (by decide) rfl rfl rfl rfl (Nat.le_of_ble_eq_true rfl) rfl dX6_lent_2 ?_
  refine nx_if_eq (tgt := 17) C0 dX6_lent_5 (by decide) (fun q => ?_) (fun q => ?_)
  · have h := nift q h
    refine nx_iconst (v := -1) C0 dX6_lent_17 (by decide) ?_
    exact nr_i C0 hr dX6_lent_18 h
  · have h := niff q h
    refine nx_iload_n C0 3 dX6_lent_8 rfl ?_
    refine nx_iconst (v := 0) C0 dX6_lent_9 (by decide) ?_
    refine nx_iconst (v := 1) C0 dX6_lent_10 (by decide) ?_
    obtain ⟨r28, c27, h⟩ := nbind h
    refine nx_cSi (n := 3) (As := [.int x3, .int (0 : Int32), .int (1 : Int32)]) (st := []) C0 (mX6_isIn l D B hB x3 (0 : Int32) (1 : Int32) σ c27) gX6_lent_X6_isIn rfl rfl rfl ndX6_isIn ⟨Nat.le_of_ble_eq_true rfl, Nat.le_of_ble_eq_true rfl⟩ rfl (Nat.le_of_ble_eq_true rfl) rfl dX6_lent_11 ?_
    refine nx_if_ne (tgt := 19) C0 dX6_lent_14 (by decide) (fun q => ?_) (fun q => ?_)
    · have h := niff q h
      refine nx_aload_n C0 0 dX6_lent_19 rfl ?_
      refine nx_iload_n C0 1 dX6_lent_20 rfl ?_
      refine nx_iconst (v := -1) C0 dX6_lent_21 (by decide) ?_
      obtain ⟨r30, c29, h⟩ := nbind h
      refine nx_cVi (ci := 6) (n := 2) (As := [.int x1, .int (-1 : Int32)]) (st := []) C0 (mX6_wrongRow l D B hB x1 (-1 : Int32) σ c29) gX6_lent_X6_wrongRow rfl rfl rfl ndX6_wrongRow ⟨Nat.le_of_ble_eq_true rfl, Nat.le_of_ble_eq_true rfl⟩ (by decide) rfl rfl rfl rfl (Nat.le_of_ble_eq_true rfl) rfl dX6_lent_22 ?_
      refine nx_istore (i := 4) (y := r30) (lv' := [(4, .int r30), (0, .ref (na B 63)), (1, .int x1), (2, .int x2), (3, .int x3)]) C0 dX6_lent_25 (by decide) rfl rfl ?_
      refine nx_iconst (v := 0) C0 dX6_lent_27 (by decide) ?_
      refine nx_istore (i := 5) (y := (0 : Int32)) (lv' := [(5, .int (0 : Int32)), (4, .int r30), (0, .ref (na B 63)), (1, .int x1), (2, .int x2), (3, .int x3)]) C0 dX6_lent_28 (by decide) rfl rfl ?_
      refine nx_lv (lv' := [(0, .ref (na B 63)), (1, .int x1), (2, .int x2), (3, .int x3), (4, .int r30), (5, .int (0 : Int32))]) [2, 3, 4, 5, 1, 0] rfl ?_
      exact hfX6_lent_b30 4096 x1 x2 x3 r30 (0 : Int32) h
    · have h := nift q h
      refine nx_iconst (v := -1) C0 dX6_lent_17 (by decide) ?_
      exact nr_i C0 hr dX6_lent_18 h
def rmX6_whatIs : Room := { frames := 3, cells := 0, slots := 0, locals := 64 }
theorem ndX6_whatIs : yX6_whatIs.cls = RX6 ∧ yX6_whatIs.cls ≠ "java/lang/invoke/MethodHandle" ∧ yX6_whatIs.cls ≠ "java/lang/invoke/VarHandle" ∧ (parseMethodDescriptor yX6_whatIs.desc).map (fun d => d.parameters.length) = some 4 := by decide +kernel
set_option maxRecDepth 100000 in
set_option maxHeartbeats 4000000 in
theorem mX6_whatIs (l : Launch) (D : va_G) (B : nBT) (hB : nInj B) (x1 : Int32) (x2 : Int32) (x3 : Int32) (x4 : Int32) (σ : nS) {r : Int32}  (h : fX6_whatIs x1 x2 x3 x4 σ = some r) : nMi l D B yX6_whatIs wsX6_whatIs rmX6_whatIs [.ref (na B 63), .int x1, .int x2, .int x3, .int x4] σ r σ := by
  refine nmet (cc := cX6_whatIs) (maxL := 11) (ret := (some .int)) (own := RX6) (av := [.ref (na B 63), .int x1, .int x2, .int x3, .int x4]) (nQi D B r σ) hB (by decide) rfl rfl (Nat.le_of_ble_eq_true rfl) (fun p e s m args below meth c C0 hr => ?_)
  have hh0 : ∀ w ∈ wsX60, w ∈ wsX6_whatIs := by decide +kernel
  have hh1 := C0.2.2.2.2.1 (Cond.fieldLink RX6 9 "NotInTheCoinModel" "s" "[I") (by decide +kernel)
  have hh2 := C0.2.2.2.2.1 (Cond.fieldLink RX6 46 "NotInTheCoinModel" "size" "[I") (by decide +kernel)
  have hh3 := C0.2.2.2.2.1 (Cond.fieldLink RX6 49 "NotInTheCoinModel" "element" "[I") (by decide +kernel)
  have hh4 := C0.2.2.2.2.1 (Cond.fieldLink RX6 43 "NotInTheCoinModel" "sort" "[I") (by decide +kernel)
  have hfX6_whatIs_b159 : ∀ (s50 : Int32 → Int32 → Int32 → Int32 → Int32 → Int32 → nS → Option Int32) (hs50 : ∀ (a1 : Int32) (a2 : Int32) (a3 : Int32) (a4 : Int32) (a6 : Int32) (a7 : Int32), s50 a1 a2 a3 a4 a6 a7 σ = some r → nJ p l e rmX6_whatIs s m args below meth c 0 0 (MQ below (nQi D B r σ s.heap.size) args s 0 0 (nA B s.heap.size)) D B 11 50 [(0, .ref (na B 63)), (1, .int a1), (2, .int a2), (3, .int a3), (4, .int a4), (6, .int a6), (7, .int a7)] [] σ) (s73 : Int32 → Int32 → Int32 → Int32 → Int32 → Int32 → Int32 → Int32 → nS → Option Int32) (hs73 : ∀ (a1 : Int32) (a2 : Int32) (a3 : Int32) (a4 : Int32) (a6 : Int32) (a7 : Int32) (a8 : Int32) (a9 : Int32), s73 a1 a2 a3 a4 a6 a7 a8 a9 σ = some r → nJ p l e rmX6_whatIs s m args below meth c 0 0 (MQ below (nQi D B r σ s.heap.size) args s 0 0 (nA B s.heap.size)) D B 11 73 [(0, .ref (na B 63)), (1, .int a1), (2, .int a2), (3, .int a3), (4, .int a4), (6, .int a6), (7, .int a7), (8, .int a8), (9, .int a9)] [] σ) (a1 : Int32) (a2 : Int32) (a3 : Int32) (a4 : Int32) (a6 : Int32) (a7 : Int32) (a9 : Int32) (z0 : Int32) (z1 : Int32) (z2 : Int32) (z3 : Int32) (h : fX6_whatIs_b159 s50 s73 a1 a2 a3 a4 a6 a7 a9 z0 z1 z2 z3 σ = some r), nJ p l e rmX6_whatIs s m args below meth c 0 0 (MQ below (nQi D B r σ s.heap.size) args s 0 0 (nA B s.heap.size)) D B 11 159 [(0, .ref (na B 63)), (1, .int a1), (2, .int a2), (3, .int a3), (4, .int a4), (6, .int a6), (7, .int a7), (9, .int a9)] [.int z0, .int z1, .int z2, .int z3] σ := by
    intro s50 hs50 s73 hs73 a1 a2 a3 a4 a6 a7 a9 z0 z1 z2 z3 h
    rw [fX6_whatIs_b159] at h
    refine nx_aload_n C0 0 dX6_whatIs_159 rfl ?_
    refine nx_gX6_s C0 hh0 hh1 dX6_whatIs_160 ?_
    refine nx_bipush (v := 28) C0 dX6_whatIs_163 (by decide) ?_
    refine nx_iload_n C0 2 dX6_whatIs_165 rfl ?_
    refine nx_iadd C0 dX6_whatIs_166 ?_
    obtain ⟨g1, h⟩ := nguard h
    refine nx_iald C0 nI_64 g1 dX6_whatIs_167 ?_
    refine nx_aload_n C0 0 dX6_whatIs_168 rfl ?_
    refine nx_gX6_s C0 hh0 hh1 dX6_whatIs_169 ?_
    refine nx_iconst (v := 3) C0 dX6_whatIs_172 (by decide) ?_
    obtain ⟨g2, h⟩ := nguard h
    refine nx_iald C0 nI_64 g2 dX6_whatIs_173 ?_
    refine nx_iload C0 7 dX6_whatIs_174 rfl ?_
    refine nx_iadd C0 dX6_whatIs_176 ?_
    obtain ⟨r4, c3, h⟩ := nbind h
    refine nx_cSi (n := 4) (As := [.int z1, .int z0, .int (σ 64 (((28 : Int32) + a2)).toNatClampNeg), .int ((σ 64 ((3 : Int32)).toNatClampNeg) + a9)]) (st := [.int z2, .int z3]) C0 (mX6_worthBy l D B hB z1 z0 (σ 64 (((28 : Int32) + a2)).toNatClampNeg) ((σ 64 ((3 : Int32)).toNatClampNeg) + a9) σ c3) gX6_whatIs_X6_worthBy rfl rfl rfl ndX6_worthBy ⟨Nat.le_of_ble_eq_true rfl, Nat.le_of_ble_eq_true rfl⟩ rfl (Nat.le_of_ble_eq_true rfl) rfl dX6_whatIs_177 ?_
    refine nx_icmp_ne (tgt := 187) C0 dX6_whatIs_180 (by decide) (fun q => ?_) (fun q => ?_)
    · have h := niff q h
      refine nx_iconst (v := 0) C0 dX6_whatIs_187 (by decide) ?_
      refine nx_iand C0 dX6_whatIs_188 ?_
      obtain ⟨v5, ev5, h⟩ := nlet h
      refine nx_istore (i := 8) (y := v5) (lv' := [(8, .int v5), (0, .ref (na B 63)), (1, .int a1), (2, .int a2), (3, .int a3), (4, .int a4), (6, .int a6), (7, .int a7), (9, .int a9)]) C0 dX6_whatIs_189 (by decide) ev5 rfl ?_
      obtain ⟨v6, ev6, h⟩ := nlet h
      refine nx_iinc (v := v6) (lv' := [(9, .int v6), (8, .int v5), (0, .ref (na B 63)), (1, .int a1), (2, .int a2), (3, .int a3), (4, .int a4), (6, .int a6), (7, .int a7)]) C0 8 dX6_whatIs_191 rfl ev6 (by decide) rfl ?_
      refine nx_goto (tgt := 73) C0 dX6_whatIs_194 (by decide) ?_
      refine nx_lv (lv' := [(0, .ref (na B 63)), (1, .int a1), (2, .int a2), (3, .int a3), (4, .int a4), (6, .int a6), (7, .int a7), (8, .int v5), (9, .int v6)]) [2, 3, 4, 5, 6, 7, 8, 1, 0] rfl ?_
      exact hs73 a1 a2 a3 a4 a6 a7 v5 v6 h
    · have h := nift q h
      refine nx_iconst (v := 1) C0 dX6_whatIs_183 (by decide) ?_
      refine nx_goto (tgt := 188) C0 dX6_whatIs_184 (by decide) ?_
      refine nx_iand C0 dX6_whatIs_188 ?_
      obtain ⟨v7, ev7, h⟩ := nlet h
      refine nx_istore (i := 8) (y := v7) (lv' := [(8, .int v7), (0, .ref (na B 63)), (1, .int a1), (2, .int a2), (3, .int a3), (4, .int a4), (6, .int a6), (7, .int a7), (9, .int a9)]) C0 dX6_whatIs_189 (by decide) ev7 rfl ?_
      obtain ⟨v8, ev8, h⟩ := nlet h
      refine nx_iinc (v := v8) (lv' := [(9, .int v8), (8, .int v7), (0, .ref (na B 63)), (1, .int a1), (2, .int a2), (3, .int a3), (4, .int a4), (6, .int a6), (7, .int a7)]) C0 8 dX6_whatIs_191 rfl ev8 (by decide) rfl ?_
      refine nx_goto (tgt := 73) C0 dX6_whatIs_194 (by decide) ?_
      refine nx_lv (lv' := [(0, .ref (na B 63)), (1, .int a1), (2, .int a2), (3, .int a3), (4, .int a4), (6, .int a6), (7, .int a7), (8, .int v7), (9, .int v8)]) [2, 3, 4, 5, 6, 7, 8, 1, 0] rfl ?_
      exact hs73 a1 a2 a3 a4 a6 a7 v7 v8 h
  have hfX6_whatIs_b137 : ∀ (s50 : Int32 → Int32 → Int32 → Int32 → Int32 → Int32 → nS → Option Int32) (hs50 : ∀ (a1 : Int32) (a2 : Int32) (a3 : Int32) (a4 : Int32) (a6 : Int32) (a7 : Int32), s50 a1 a2 a3 a4 a6 a7 σ = some r → nJ p l e rmX6_whatIs s m args below meth c 0 0 (MQ below (nQi D B r σ s.heap.size) args s 0 0 (nA B s.heap.size)) D B 11 50 [(0, .ref (na B 63)), (1, .int a1), (2, .int a2), (3, .int a3), (4, .int a4), (6, .int a6), (7, .int a7)] [] σ) (s73 : Int32 → Int32 → Int32 → Int32 → Int32 → Int32 → Int32 → Int32 → nS → Option Int32) (hs73 : ∀ (a1 : Int32) (a2 : Int32) (a3 : Int32) (a4 : Int32) (a6 : Int32) (a7 : Int32) (a8 : Int32) (a9 : Int32), s73 a1 a2 a3 a4 a6 a7 a8 a9 σ = some r → nJ p l e rmX6_whatIs s m args below meth c 0 0 (MQ below (nQi D B r σ s.heap.size) args s 0 0 (nA B s.heap.size)) D B 11 73 [(0, .ref (na B 63)), (1, .int a1), (2, .int a2), (3, .int a3), (4, .int a4), (6, .int a6), (7, .int a7), (8, .int a8), (9, .int a9)] [] σ) (a1 : Int32) (a2 : Int32) (a3 : Int32) (a4 : Int32) (a6 : Int32) (a7 : Int32) (a9 : Int32) (z0 : Int32) (z1 : Int32) (z2 : Int32) (h : fX6_whatIs_b137 s50 s73 a1 a2 a3 a4 a6 a7 a9 z0 z1 z2 σ = some r), nJ p l e rmX6_whatIs s m args below meth c 0 0 (MQ below (nQi D B r σ s.heap.size) args s 0 0 (nA B s.heap.size)) D B 11 137 [(0, .ref (na B 63)), (1, .int a1), (2, .int a2), (3, .int a3), (4, .int a4), (6, .int a6), (7, .int a7), (9, .int a9)] [.int z0, .int z1, .int z2] σ := by
    intro s50 hs50 s73 hs73 a1 a2 a3 a4 a6 a7 a9 z0 z1 z2 h
    rw [fX6_whatIs_b137] at h
    refine nx_iload C0 4 dX6_whatIs_137 rfl ?_
    refine nx_iconst (v := 1) C0 dX6_whatIs_139 (by decide) ?_
    refine nx_icmp_ne (tgt := 148) C0 dX6_whatIs_140 (by decide) (fun q => ?_) (fun q => ?_)
    · have h := niff q h
      refine nx_aload_n C0 0 dX6_whatIs_148 rfl ?_
      refine nx_gX6_s C0 hh0 hh1 dX6_whatIs_149 ?_
      refine nx_iload_n C0 3 dX6_whatIs_152 rfl ?_
      obtain ⟨r10, c9, h⟩ := nbind h
      refine nx_cSi (n := 1) (As := [.int a3]) (st := [.ref (na B 64), .int z0, .int z1, .int z2]) C0 (mX6_ofG l D B hB a3 σ c9) gX6_whatIs_X6_ofG rfl rfl rfl ndX6_ofG ⟨Nat.le_of_ble_eq_true rfl, Nat.le_of_ble_eq_true rfl⟩ rfl (Nat.le_of_ble_eq_true rfl) rfl dX6_whatIs_153 ?_
      refine nx_iconst (v := 1) C0 dX6_whatIs_156 (by decide) ?_
      refine nx_iadd C0 dX6_whatIs_157 ?_
      obtain ⟨g11, h⟩ := nguard h
      refine nx_iald C0 nI_64 g11 dX6_whatIs_158 ?_
      exact hfX6_whatIs_b159 s50 hs50 s73 hs73 a1 a2 a3 a4 a6 a7 a9 (σ 64 ((r10 + (1 : Int32))).toNatClampNeg) z0 z1 z2 h
    · have h := nift q h
      refine nx_iload C0 6 dX6_whatIs_143 rfl ?_
      refine nx_goto (tgt := 159) C0 dX6_whatIs_145 (by decide) ?_
      exact hfX6_whatIs_b159 s50 hs50 s73 hs73 a1 a2 a3 a4 a6 a7 a9 a7 z0 z1 z2 h
  have hfX6_whatIs_b73 : ∀ (s50 : Int32 → Int32 → Int32 → Int32 → Int32 → Int32 → nS → Option Int32) (hs50 : ∀ (a1 : Int32) (a2 : Int32) (a3 : Int32) (a4 : Int32) (a6 : Int32) (a7 : Int32), s50 a1 a2 a3 a4 a6 a7 σ = some r → nJ p l e rmX6_whatIs s m args below meth c 0 0 (MQ below (nQi D B r σ s.heap.size) args s 0 0 (nA B s.heap.size)) D B 11 50 [(0, .ref (na B 63)), (1, .int a1), (2, .int a2), (3, .int a3), (4, .int a4), (6, .int a6), (7, .int a7)] [] σ) (n : Nat) (a1 : Int32) (a2 : Int32) (a3 : Int32) (a4 : Int32) (a6 : Int32) (a7 : Int32) (a8 : Int32) (a9 : Int32) (h : fX6_whatIs_b73 s50 n a1 a2 a3 a4 a6 a7 a8 a9 σ = some r), nJ p l e rmX6_whatIs s m args below meth c 0 0 (MQ below (nQi D B r σ s.heap.size) args s 0 0 (nA B s.heap.size)) D B 11 73 [(0, .ref (na B 63)), (1, .int a1), (2, .int a2), (3, .int a3), (4, .int a4), (6, .int a6), (7, .int a7), (8, .int a8), (9, .int a9)] [] σ := by
    intro s50 hs50 n
    induction n with
    | zero => intro a1 a2 a3 a4 a6 a7 a8 a9 h; cases h
    | succ n ih =>
        intro a1 a2 a3 a4 a6 a7 a8 a9 h
        rw [fX6_whatIs_b73] at h
        refine nx_iload C0 8 dX6_whatIs_73 rfl ?_
        refine nx_aload_n C0 0 dX6_whatIs_75 rfl ?_
        refine nx_gX6_size C0 hh0 hh2 dX6_whatIs_76 ?_
        refine nx_iload_n C0 1 dX6_whatIs_79 rfl ?_
        obtain ⟨g12, h⟩ := nguard h
        refine nx_iald C0 nI_76 g12 dX6_whatIs_80 ?_
        refine nx_icmp_ge (tgt := 197) C0 dX6_whatIs_81 (by decide) (fun q => ?_) (fun q => ?_)
        · have h := nift q h
          refine nx_iload C0 5 dX6_whatIs_197 rfl ?_
          refine nx_iload C0 7 dX6_whatIs_199 rfl ?_
          refine nx_if_eq (tgt := 211) C0 dX6_whatIs_201 (by decide) (fun q => ?_) (fun q => ?_)
          · have h := nift q h
            refine nx_iconst (v := 0) C0 dX6_whatIs_211 (by decide) ?_
            refine nx_ior C0 dX6_whatIs_212 ?_
            obtain ⟨v13, ev13, h⟩ := nlet h
            refine nx_istore (i := 6) (y := v13) (lv' := [(6, .int v13), (0, .ref (na B 63)), (1, .int a1), (2, .int a2), (3, .int a3), (4, .int a4), (7, .int a7), (8, .int a8), (9, .int a9)]) C0 dX6_whatIs_213 (by decide) ev13 rfl ?_
            obtain ⟨v14, ev14, h⟩ := nlet h
            refine nx_iinc (v := v14) (lv' := [(7, .int v14), (6, .int v13), (0, .ref (na B 63)), (1, .int a1), (2, .int a2), (3, .int a3), (4, .int a4), (8, .int a8), (9, .int a9)]) C0 6 dX6_whatIs_215 rfl ev14 (by decide) rfl ?_
            refine nx_goto (tgt := 50) C0 dX6_whatIs_218 (by decide) ?_
            refine nx_lv (lv' := [(0, .ref (na B 63)), (1, .int a1), (2, .int a2), (3, .int a3), (4, .int a4), (6, .int v13), (7, .int v14)]) [2, 3, 4, 5, 6, 1, 0] rfl ?_
            exact hs50 a1 a2 a3 a4 v13 v14 h
          · have h := niff q h
            refine nx_iconst (v := 1) C0 dX6_whatIs_204 (by decide) ?_
            refine nx_iload C0 6 dX6_whatIs_205 rfl ?_
            refine nx_ishl C0 dX6_whatIs_207 ?_
            refine nx_goto (tgt := 212) C0 dX6_whatIs_208 (by decide) ?_
            refine nx_ior C0 dX6_whatIs_212 ?_
            obtain ⟨v15, ev15, h⟩ := nlet h
            refine nx_istore (i := 6) (y := v15) (lv' := [(6, .int v15), (0, .ref (na B 63)), (1, .int a1), (2, .int a2), (3, .int a3), (4, .int a4), (7, .int a7), (8, .int a8), (9, .int a9)]) C0 dX6_whatIs_213 (by decide) ev15 rfl ?_
            obtain ⟨v16, ev16, h⟩ := nlet h
            refine nx_iinc (v := v16) (lv' := [(7, .int v16), (6, .int v15), (0, .ref (na B 63)), (1, .int a1), (2, .int a2), (3, .int a3), (4, .int a4), (8, .int a8), (9, .int a9)]) C0 6 dX6_whatIs_215 rfl ev16 (by decide) rfl ?_
            refine nx_goto (tgt := 50) C0 dX6_whatIs_218 (by decide) ?_
            refine nx_lv (lv' := [(0, .ref (na B 63)), (1, .int a1), (2, .int a2), (3, .int a3), (4, .int a4), (6, .int v15), (7, .int v16)]) [2, 3, 4, 5, 6, 1, 0] rfl ?_
            exact hs50 a1 a2 a3 a4 v15 v16 h
        · have h := niff q h
          refine nx_aload_n C0 0 dX6_whatIs_84 rfl ?_
          refine nx_gX6_element C0 hh0 hh3 dX6_whatIs_85 ?_
          refine nx_bipush (v := 100) C0 dX6_whatIs_88 (by decide) ?_
          refine nx_iload_n C0 1 dX6_whatIs_90 rfl ?_
          refine nx_imul C0 dX6_whatIs_91 ?_
          refine nx_iload C0 8 dX6_whatIs_92 rfl ?_
          refine nx_iadd C0 dX6_whatIs_94 ?_
          obtain ⟨g17, h⟩ := nguard h
          refine nx_iald C0 nI_77 g17 dX6_whatIs_95 ?_
          obtain ⟨v18, ev18, h⟩ := nlet h
          refine nx_istore (i := 10) (y := v18) (lv' := [(10, .int v18), (0, .ref (na B 63)), (1, .int a1), (2, .int a2), (3, .int a3), (4, .int a4), (6, .int a6), (7, .int a7), (8, .int a8), (9, .int a9)]) C0 dX6_whatIs_96 (by decide) ev18 rfl ?_
          refine nx_iload C0 8 dX6_whatIs_98 rfl ?_
          refine nx_iload C0 0 dX6_whatIs_100 rfl ?_
          refine nx_aload_n C0 1 dX6_whatIs_102 rfl ?_
          refine nx_gX6_sort C0 hh0 hh4 dX6_whatIs_103 ?_
          refine nx_iload_n C0 2 dX6_whatIs_106 rfl ?_
          obtain ⟨g19, h⟩ := nguard h
          refine nx_iald C0 nI_75 g19 dX6_whatIs_107 ?_
          obtain ⟨r21, c20, h⟩ := nbind h
          refine nx_cSi (n := 1) (As := [.int (σ 75 (a1).toNatClampNeg)]) (st := [.int v18, .int a8]) C0 (mX6_leastOf l D B hB (σ 75 (a1).toNatClampNeg) σ c20) gX6_whatIs_X6_leastOf rfl rfl rfl ndX6_leastOf ⟨Nat.le_of_ble_eq_true rfl, Nat.le_of_ble_eq_true rfl⟩ rfl (Nat.le_of_ble_eq_true rfl) rfl dX6_whatIs_108 ?_
          refine nx_icmp_eq (tgt := 183) C0 dX6_whatIs_111 (by decide) (fun q => ?_) (fun q => ?_)
          · have h := nift q h
            refine nx_iconst (v := 1) C0 dX6_whatIs_183 (by decide) ?_
            refine nx_goto (tgt := 188) C0 dX6_whatIs_184 (by decide) ?_
            refine nx_iand C0 dX6_whatIs_188 ?_
            obtain ⟨v22, ev22, h⟩ := nlet h
            refine nx_istore (i := 8) (y := v22) (lv' := [(8, .int v22), (10, .int v18), (0, .ref (na B 63)), (1, .int a1), (2, .int a2), (3, .int a3), (4, .int a4), (6, .int a6), (7, .int a7), (9, .int a9)]) C0 dX6_whatIs_189 (by decide) ev22 rfl ?_
            obtain ⟨v23, ev23, h⟩ := nlet h
            refine nx_iinc (v := v23) (lv' := [(9, .int v23), (8, .int v22), (10, .int v18), (0, .ref (na B 63)), (1, .int a1), (2, .int a2), (3, .int a3), (4, .int a4), (6, .int a6), (7, .int a7)]) C0 9 dX6_whatIs_191 rfl ev23 (by decide) rfl ?_
            refine nx_goto (tgt := 73) C0 dX6_whatIs_194 (by decide) ?_
            refine nx_lv (lv' := [(0, .ref (na B 63)), (1, .int a1), (2, .int a2), (3, .int a3), (4, .int a4), (6, .int a6), (7, .int a7), (8, .int v22), (9, .int v23)]) [3, 4, 5, 6, 7, 8, 9, 1, 0] rfl ?_
            exact ih a1 a2 a3 a4 a6 a7 v22 v23 h
          · have h := niff q h
            refine nx_iload C0 0 dX6_whatIs_114 rfl ?_
            refine nx_iload C0 5 dX6_whatIs_116 rfl ?_
            refine nx_if_ne (tgt := 126) C0 dX6_whatIs_118 (by decide) (fun q => ?_) (fun q => ?_)
            · have h := niff q h
              refine nx_aload_n C0 1 dX6_whatIs_126 rfl ?_
              refine nx_gX6_s C0 hh0 hh1 dX6_whatIs_127 ?_
              refine nx_iload_n C0 4 dX6_whatIs_130 rfl ?_
              obtain ⟨r25, c24, h⟩ := nbind h
              refine nx_cSi (n := 1) (As := [.int a3]) (st := [.ref (na B 64), .int v18, .int a8]) C0 (mX6_ofG l D B hB a3 σ c24) gX6_whatIs_X6_ofG rfl rfl rfl ndX6_ofG ⟨Nat.le_of_ble_eq_true rfl, Nat.le_of_ble_eq_true rfl⟩ rfl (Nat.le_of_ble_eq_true rfl) rfl dX6_whatIs_131 ?_
              refine nx_iconst (v := 0) C0 dX6_whatIs_134 (by decide) ?_
              refine nx_iadd C0 dX6_whatIs_135 ?_
              obtain ⟨g26, h⟩ := nguard h
              refine nx_iald C0 nI_64 g26 dX6_whatIs_136 ?_
              refine nx_lv (lv' := [(0, .ref (na B 63)), (1, .int a1), (2, .int a2), (3, .int a3), (4, .int a4), (6, .int a6), (7, .int a7), (9, .int a9)]) [1, 2, 3, 4, 5, 6, 7, 9] rfl ?_
              exact hfX6_whatIs_b137 s50 hs50 (fX6_whatIs_b73 s50 n) ih a1 a2 a3 a4 a6 a7 a9 (σ 64 ((r25 + (0 : Int32))).toNatClampNeg) v18 a8 h
            · have h := nift q h
              refine nx_iload C0 7 dX6_whatIs_121 rfl ?_
              refine nx_goto (tgt := 137) C0 dX6_whatIs_123 (by decide) ?_
              refine nx_lv (lv' := [(0, .ref (na B 63)), (1, .int a1), (2, .int a2), (3, .int a3), (4, .int a4), (6, .int a6), (7, .int a7), (9, .int a9)]) [1, 2, 3, 4, 5, 6, 7, 9] rfl ?_
              exact hfX6_whatIs_b137 s50 hs50 (fX6_whatIs_b73 s50 n) ih a1 a2 a3 a4 a6 a7 a9 a7 v18 a8 h
  have hfX6_whatIs_b64 : ∀ (s50 : Int32 → Int32 → Int32 → Int32 → Int32 → Int32 → nS → Option Int32) (hs50 : ∀ (a1 : Int32) (a2 : Int32) (a3 : Int32) (a4 : Int32) (a6 : Int32) (a7 : Int32), s50 a1 a2 a3 a4 a6 a7 σ = some r → nJ p l e rmX6_whatIs s m args below meth c 0 0 (MQ below (nQi D B r σ s.heap.size) args s 0 0 (nA B s.heap.size)) D B 11 50 [(0, .ref (na B 63)), (1, .int a1), (2, .int a2), (3, .int a3), (4, .int a4), (6, .int a6), (7, .int a7)] [] σ) (a1 : Int32) (a2 : Int32) (a3 : Int32) (a4 : Int32) (a6 : Int32) (a7 : Int32) (z0 : Int32) (z1 : Int32) (h : fX6_whatIs_b64 s50 a1 a2 a3 a4 a6 a7 z0 z1 σ = some r), nJ p l e rmX6_whatIs s m args below meth c 0 0 (MQ below (nQi D B r σ s.heap.size) args s 0 0 (nA B s.heap.size)) D B 11 64 [(0, .ref (na B 63)), (1, .int a1), (2, .int a2), (3, .int a3), (4, .int a4), (6, .int a6), (7, .int a7)] [.int z0, .int z1] σ := by
    intro s50 hs50 a1 a2 a3 a4 a6 a7 z0 z1 h
    rw [fX6_whatIs_b64] at h
    refine nx_icmp_ge (tgt := 221) C0 dX6_whatIs_64 (by decide) (fun q => ?_) (fun q => ?_)
    · have h := nift q h
      refine nx_iload C0 5 dX6_whatIs_221 rfl ?_
      exact nr_i C0 hr dX6_whatIs_223 h
    · have h := niff q h
      refine nx_iconst (v := 1) C0 dX6_whatIs_67 (by decide) ?_
      refine nx_istore (i := 8) (y := (1 : Int32)) (lv' := [(8, .int (1 : Int32)), (0, .ref (na B 63)), (1, .int a1), (2, .int a2), (3, .int a3), (4, .int a4), (6, .int a6), (7, .int a7)]) C0 dX6_whatIs_68 (by decide) rfl rfl ?_
      refine nx_iconst (v := 0) C0 dX6_whatIs_70 (by decide) ?_
      refine nx_istore (i := 9) (y := (0 : Int32)) (lv' := [(9, .int (0 : Int32)), (8, .int (1 : Int32)), (0, .ref (na B 63)), (1, .int a1), (2, .int a2), (3, .int a3), (4, .int a4), (6, .int a6), (7, .int a7)]) C0 dX6_whatIs_71 (by decide) rfl rfl ?_
      refine nx_lv (lv' := [(0, .ref (na B 63)), (1, .int a1), (2, .int a2), (3, .int a3), (4, .int a4), (6, .int a6), (7, .int a7), (8, .int (1 : Int32)), (9, .int (0 : Int32))]) [2, 3, 4, 5, 6, 7, 8, 1, 0] rfl ?_
      exact hfX6_whatIs_b73 s50 hs50 4096 a1 a2 a3 a4 a6 a7 (1 : Int32) (0 : Int32) h
  have hfX6_whatIs_b50 : ∀  (n : Nat) (a1 : Int32) (a2 : Int32) (a3 : Int32) (a4 : Int32) (a6 : Int32) (a7 : Int32) (h : fX6_whatIs_b50  n a1 a2 a3 a4 a6 a7 σ = some r), nJ p l e rmX6_whatIs s m args below meth c 0 0 (MQ below (nQi D B r σ s.heap.size) args s 0 0 (nA B s.heap.size)) D B 11 50 [(0, .ref (na B 63)), (1, .int a1), (2, .int a2), (3, .int a3), (4, .int a4), (6, .int a6), (7, .int a7)] [] σ := by
    intro  n
    induction n with
    | zero => intro a1 a2 a3 a4 a6 a7 h; cases h
    | succ n ih =>
        intro a1 a2 a3 a4 a6 a7 h
        rw [fX6_whatIs_b50] at h
        refine nx_iload C0 6 dX6_whatIs_50 rfl ?_
        refine nx_iload C0 4 dX6_whatIs_52 rfl ?_
        refine nx_if_ne (tgt := 62) C0 dX6_whatIs_54 (by decide) (fun q => ?_) (fun q => ?_)
        · have h := niff q h
          refine nx_bipush (v := 10) C0 dX6_whatIs_62 (by decide) ?_
          exact hfX6_whatIs_b64 (fX6_whatIs_b50 n) ih a1 a2 a3 a4 a6 a7 (10 : Int32) a7 h
        · have h := nift q h
          refine nx_bipush (v := 8) C0 dX6_whatIs_57 (by decide) ?_
          refine nx_goto (tgt := 64) C0 dX6_whatIs_59 (by decide) ?_
          exact hfX6_whatIs_b64 (fX6_whatIs_b50 n) ih a1 a2 a3 a4 a6 a7 (8 : Int32) a7 h
  refine nx_lv (lv' := [(0, .ref (na B 63)), (1, .int x1), (2, .int x2), (3, .int x3), (4, .int x4)]) [0, 1, 2, 3, 4] rfl ?_
  rw [fX6_whatIs] at h
  refine nx_aload_n C0 0 dX6_whatIs_0 rfl ?_
  refine nx_iload_n C0 2 dX6_whatIs_1 rfl ?_
  obtain ⟨r28, c27, h⟩ := nbind h
  refine nx_cVi (ci := 6) (n := 1) (As := [.int x2]) (st := []) C0 (mX6_isPerson l D B hB x2 σ c27) gX6_whatIs_X6_isPerson rfl rfl rfl ndX6_isPerson ⟨Nat.le_of_ble_eq_true rfl, Nat.le_of_ble_eq_true rfl⟩ (by decide) rfl rfl rfl rfl (Nat.le_of_ble_eq_true rfl) rfl dX6_whatIs_2 ?_
  refine nx_if_eq (tgt := 26) C0 dX6_whatIs_5 (by decide) (fun q => ?_) (fun q => ?_)
  · have h := nift q h
    refine nx_iconst (v := -1) C0 dX6_whatIs_26 (by decide) ?_
    exact nr_i C0 hr dX6_whatIs_27 h
  · have h := niff q h
    refine nx_aload_n C0 0 dX6_whatIs_8 rfl ?_
    refine nx_iload_n C0 3 dX6_whatIs_9 rfl ?_
    obtain ⟨r30, c29, h⟩ := nbind h
    refine nx_cVi (ci := 6) (n := 1) (As := [.int x3]) (st := []) C0 (mX6_isGood l D B hB x3 σ c29) gX6_whatIs_X6_isGood rfl rfl rfl ndX6_isGood ⟨Nat.le_of_ble_eq_true rfl, Nat.le_of_ble_eq_true rfl⟩ (by decide) rfl rfl rfl rfl (Nat.le_of_ble_eq_true rfl) rfl dX6_whatIs_10 ?_
    refine nx_if_eq (tgt := 26) C0 dX6_whatIs_13 (by decide) (fun q => ?_) (fun q => ?_)
    · have h := nift q h
      refine nx_iconst (v := -1) C0 dX6_whatIs_26 (by decide) ?_
      exact nr_i C0 hr dX6_whatIs_27 h
    · have h := niff q h
      refine nx_iload C0 4 dX6_whatIs_16 rfl ?_
      refine nx_iconst (v := 0) C0 dX6_whatIs_18 (by decide) ?_
      refine nx_iconst (v := 1) C0 dX6_whatIs_19 (by decide) ?_
      obtain ⟨r32, c31, h⟩ := nbind h
      refine nx_cSi (n := 3) (As := [.int x4, .int (0 : Int32), .int (1 : Int32)]) (st := []) C0 (mX6_isIn l D B hB x4 (0 : Int32) (1 : Int32) σ c31) gX6_whatIs_X6_isIn rfl rfl rfl ndX6_isIn ⟨Nat.le_of_ble_eq_true rfl, Nat.le_of_ble_eq_true rfl⟩ rfl (Nat.le_of_ble_eq_true rfl) rfl dX6_whatIs_20 ?_
      refine nx_if_ne (tgt := 28) C0 dX6_whatIs_23 (by decide) (fun q => ?_) (fun q => ?_)
      · have h := niff q h
        refine nx_aload_n C0 0 dX6_whatIs_28 rfl ?_
        refine nx_iload_n C0 1 dX6_whatIs_29 rfl ?_
        refine nx_iconst (v := -1) C0 dX6_whatIs_30 (by decide) ?_
        obtain ⟨r34, c33, h⟩ := nbind h
        refine nx_cVi (ci := 6) (n := 2) (As := [.int x1, .int (-1 : Int32)]) (st := []) C0 (mX6_wrongRow l D B hB x1 (-1 : Int32) σ c33) gX6_whatIs_X6_wrongRow rfl rfl rfl ndX6_wrongRow ⟨Nat.le_of_ble_eq_true rfl, Nat.le_of_ble_eq_true rfl⟩ (by decide) rfl rfl rfl rfl (Nat.le_of_ble_eq_true rfl) rfl dX6_whatIs_31 ?_
        refine nx_istore (i := 5) (y := r34) (lv' := [(5, .int r34), (0, .ref (na B 63)), (1, .int x1), (2, .int x2), (3, .int x3), (4, .int x4)]) C0 dX6_whatIs_34 (by decide) rfl rfl ?_
        refine nx_iload C0 0 dX6_whatIs_36 rfl ?_
        refine nx_if_eq (tgt := 44) C0 dX6_whatIs_38 (by decide) (fun q => ?_) (fun q => ?_)
        · have h := nift q h
          refine nx_iconst (v := 0) C0 dX6_whatIs_44 (by decide) ?_
          refine nx_istore (i := 6) (y := (0 : Int32)) (lv' := [(6, .int (0 : Int32)), (5, .int r34), (0, .ref (na B 63)), (1, .int x1), (2, .int x2), (3, .int x3), (4, .int x4)]) C0 dX6_whatIs_45 (by decide) rfl rfl ?_
          refine nx_iconst (v := 0) C0 dX6_whatIs_47 (by decide) ?_
          refine nx_istore (i := 7) (y := (0 : Int32)) (lv' := [(7, .int (0 : Int32)), (6, .int (0 : Int32)), (5, .int r34), (0, .ref (na B 63)), (1, .int x1), (2, .int x2), (3, .int x3), (4, .int x4)]) C0 dX6_whatIs_48 (by decide) rfl rfl ?_
          refine nx_lv (lv' := [(0, .ref (na B 63)), (1, .int x1), (2, .int x2), (3, .int x3), (4, .int x4), (6, .int (0 : Int32)), (7, .int (0 : Int32))]) [3, 4, 5, 6, 7, 1, 0] rfl ?_
          exact hfX6_whatIs_b50 4096 x1 x2 x3 x4 (0 : Int32) (0 : Int32) h
        · have h := niff q h
          refine nx_iload C0 0 dX6_whatIs_41 rfl ?_
          exact nr_i C0 hr dX6_whatIs_43 h
      · have h := nift q h
        refine nx_iconst (v := -1) C0 dX6_whatIs_26 (by decide) ?_
        exact nr_i C0 hr dX6_whatIs_27 h
def rmX6_tastes : Room := { frames := 3, cells := 0, slots := 0, locals := 67 }
theorem ndX6_tastes : yX6_tastes.cls = RX6 ∧ yX6_tastes.cls ≠ "java/lang/invoke/MethodHandle" ∧ yX6_tastes.cls ≠ "java/lang/invoke/VarHandle" ∧ (parseMethodDescriptor yX6_tastes.desc).map (fun d => d.parameters.length) = some 2 := by decide +kernel
set_option maxRecDepth 100000 in
set_option maxHeartbeats 4000000 in
theorem mX6_tastes (l : Launch) (D : va_G) (B : nBT) (hB : nInj B) (x1 : Int32) (x2 : Int32) (σ : nS) {r : Int32} {σ1 : nS} (h : fX6_tastes x1 x2 σ = some (r, σ1)) : nMi l D B yX6_tastes wsX6_tastes rmX6_tastes [.ref (na B 63), .int x1, .int x2] σ r σ1 := by
  refine nmet (cc := cX6_tastes) (maxL := 8) (ret := (some .int)) (own := RX6) (av := [.ref (na B 63), .int x1, .int x2]) (nQi D B r σ1) hB (by decide) rfl rfl (Nat.le_of_ble_eq_true rfl) (fun p e s m args below meth c C0 hr => ?_)
  have hh0 : ∀ w ∈ wsX60, w ∈ wsX6_tastes := by decide +kernel
  have hh1 := C0.2.2.2.2.1 (Cond.fieldLink RX6 46 "NotInTheCoinModel" "size" "[I") (by decide +kernel)
  have hh2 := C0.2.2.2.2.1 (Cond.fieldLink RX6 49 "NotInTheCoinModel" "element" "[I") (by decide +kernel)
  have hh3 := C0.2.2.2.2.1 (Cond.fieldLink RX6 43 "NotInTheCoinModel" "sort" "[I") (by decide +kernel)
  have hh4 := C0.2.2.2.2.1 (Cond.fieldLink RX6 13 "NotInTheCoinModel" "m" "[I") (by decide +kernel)
  have hh5 := C0.2.2.2.2.1 (Cond.fieldLink RX6 9 "NotInTheCoinModel" "s" "[I") (by decide +kernel)
  have hfX6_tastes_b86 : ∀ (s62 : Int32 → Int32 → Int32 → Int32 → nS → Option (Int32 × nS)) (hs62 : ∀ (a1 : Int32) (a2 : Int32) (a4 : Int32) (a5 : Int32) (σ : nS), s62 a1 a2 a4 a5 σ = some (r, σ1) → nJ p l e rmX6_tastes s m args below meth c 0 0 (MQ below (nQi D B r σ1 s.heap.size) args s 0 0 (nA B s.heap.size)) D B 8 62 [(0, .ref (na B 63)), (1, .int a1), (2, .int a2), (4, .int a4), (5, .int a5)] [] σ) (n : Nat) (a1 : Int32) (a2 : Int32) (a4 : Int32) (a5 : Int32) (a6 : Int32) (a7 : Int32) (σ : nS) (h : fX6_tastes_b86 s62 n a1 a2 a4 a5 a6 a7 σ = some (r, σ1)), nJ p l e rmX6_tastes s m args below meth c 0 0 (MQ below (nQi D B r σ1 s.heap.size) args s 0 0 (nA B s.heap.size)) D B 8 86 [(0, .ref (na B 63)), (1, .int a1), (2, .int a2), (4, .int a4), (5, .int a5), (6, .int a6), (7, .int a7)] [] σ := by
    intro s62 hs62 n
    induction n with
    | zero => intro a1 a2 a4 a5 a6 a7 σ h; cases h
    | succ n ih =>
        intro a1 a2 a4 a5 a6 a7 σ h
        rw [fX6_tastes_b86] at h
        refine nx_iload C0 6 dX6_tastes_86 rfl ?_
        refine nx_aload_n C0 0 dX6_tastes_88 rfl ?_
        refine nx_gX6_size C0 hh0 hh1 dX6_tastes_89 ?_
        refine nx_iload_n C0 1 dX6_tastes_92 rfl ?_
        obtain ⟨g1, h⟩ := nguard h
        refine nx_iald C0 nI_76 g1 dX6_tastes_93 ?_
        refine nx_icmp_ge (tgt := 162) C0 dX6_tastes_94 (by decide) (fun q => ?_) (fun q => ?_)
        · have h := nift q h
          refine nx_iload C0 3 dX6_tastes_162 rfl ?_
          refine nx_iload C0 5 dX6_tastes_164 rfl ?_
          refine nx_if_eq (tgt := 176) C0 dX6_tastes_166 (by decide) (fun q => ?_) (fun q => ?_)
          · have h := nift q h
            refine nx_iconst (v := 0) C0 dX6_tastes_176 (by decide) ?_
            refine nx_ior C0 dX6_tastes_177 ?_
            obtain ⟨v2, ev2, h⟩ := nlet h
            refine nx_istore (i := 4) (y := v2) (lv' := [(4, .int v2), (0, .ref (na B 63)), (1, .int a1), (2, .int a2), (5, .int a5), (6, .int a6), (7, .int a7)]) C0 dX6_tastes_178 (by decide) ev2 rfl ?_
            obtain ⟨v3, ev3, h⟩ := nlet h
            refine nx_iinc (v := v3) (lv' := [(5, .int v3), (4, .int v2), (0, .ref (na B 63)), (1, .int a1), (2, .int a2), (6, .int a6), (7, .int a7)]) C0 4 dX6_tastes_180 rfl ev3 (by decide) rfl ?_
            refine nx_goto (tgt := 62) C0 dX6_tastes_183 (by decide) ?_
            refine nx_lv (lv' := [(0, .ref (na B 63)), (1, .int a1), (2, .int a2), (4, .int v2), (5, .int v3)]) [2, 3, 4, 1, 0] rfl ?_
            exact hs62 a1 a2 v2 v3 σ h
          · have h := niff q h
            refine nx_iconst (v := 1) C0 dX6_tastes_169 (by decide) ?_
            refine nx_iload C0 4 dX6_tastes_170 rfl ?_
            refine nx_ishl C0 dX6_tastes_172 ?_
            refine nx_goto (tgt := 177) C0 dX6_tastes_173 (by decide) ?_
            refine nx_ior C0 dX6_tastes_177 ?_
            obtain ⟨v4, ev4, h⟩ := nlet h
            refine nx_istore (i := 4) (y := v4) (lv' := [(4, .int v4), (0, .ref (na B 63)), (1, .int a1), (2, .int a2), (5, .int a5), (6, .int a6), (7, .int a7)]) C0 dX6_tastes_178 (by decide) ev4 rfl ?_
            obtain ⟨v5, ev5, h⟩ := nlet h
            refine nx_iinc (v := v5) (lv' := [(5, .int v5), (4, .int v4), (0, .ref (na B 63)), (1, .int a1), (2, .int a2), (6, .int a6), (7, .int a7)]) C0 4 dX6_tastes_180 rfl ev5 (by decide) rfl ?_
            refine nx_goto (tgt := 62) C0 dX6_tastes_183 (by decide) ?_
            refine nx_lv (lv' := [(0, .ref (na B 63)), (1, .int a1), (2, .int a2), (4, .int v4), (5, .int v5)]) [2, 3, 4, 1, 0] rfl ?_
            exact hs62 a1 a2 v4 v5 σ h
        · have h := niff q h
          refine nx_iload C0 5 dX6_tastes_97 rfl ?_
          refine nx_aload_n C0 0 dX6_tastes_99 rfl ?_
          refine nx_gX6_element C0 hh0 hh2 dX6_tastes_100 ?_
          refine nx_bipush (v := 100) C0 dX6_tastes_103 (by decide) ?_
          refine nx_iload_n C0 1 dX6_tastes_105 rfl ?_
          refine nx_imul C0 dX6_tastes_106 ?_
          refine nx_iload C0 6 dX6_tastes_107 rfl ?_
          refine nx_iadd C0 dX6_tastes_109 ?_
          obtain ⟨g6, h⟩ := nguard h
          refine nx_iald C0 nI_77 g6 dX6_tastes_110 ?_
          refine nx_aload_n C0 0 dX6_tastes_111 rfl ?_
          refine nx_gX6_sort C0 hh0 hh3 dX6_tastes_112 ?_
          refine nx_iload_n C0 1 dX6_tastes_115 rfl ?_
          obtain ⟨g7, h⟩ := nguard h
          refine nx_iald C0 nI_75 g7 dX6_tastes_116 ?_
          obtain ⟨r9, c8, h⟩ := nbind h
          refine nx_cSi (n := 1) (As := [.int (σ 75 (a1).toNatClampNeg)]) (st := [.int (σ 77 ((((100 : Int32) * a1) + a7)).toNatClampNeg), .int a6]) C0 (mX6_leastOf l D B hB (σ 75 (a1).toNatClampNeg) σ c8) gX6_tastes_X6_leastOf rfl rfl rfl ndX6_leastOf ⟨Nat.le_of_ble_eq_true rfl, Nat.le_of_ble_eq_true rfl⟩ rfl (Nat.le_of_ble_eq_true rfl) rfl dX6_tastes_117 ?_
          refine nx_icmp_eq (tgt := 148) C0 dX6_tastes_120 (by decide) (fun q => ?_) (fun q => ?_)
          · have h := nift q h
            refine nx_iconst (v := 1) C0 dX6_tastes_148 (by decide) ?_
            refine nx_goto (tgt := 153) C0 dX6_tastes_149 (by decide) ?_
            refine nx_iand C0 dX6_tastes_153 ?_
            obtain ⟨v10, ev10, h⟩ := nlet h
            refine nx_istore (i := 6) (y := v10) (lv' := [(6, .int v10), (0, .ref (na B 63)), (1, .int a1), (2, .int a2), (4, .int a4), (5, .int a5), (7, .int a7)]) C0 dX6_tastes_154 (by decide) ev10 rfl ?_
            obtain ⟨v11, ev11, h⟩ := nlet h
            refine nx_iinc (v := v11) (lv' := [(7, .int v11), (6, .int v10), (0, .ref (na B 63)), (1, .int a1), (2, .int a2), (4, .int a4), (5, .int a5)]) C0 6 dX6_tastes_156 rfl ev11 (by decide) rfl ?_
            refine nx_goto (tgt := 86) C0 dX6_tastes_159 (by decide) ?_
            refine nx_lv (lv' := [(0, .ref (na B 63)), (1, .int a1), (2, .int a2), (4, .int a4), (5, .int a5), (6, .int v10), (7, .int v11)]) [2, 3, 4, 5, 6, 1, 0] rfl ?_
            exact ih a1 a2 a4 a5 v10 v11 σ h
          · have h := niff q h
            refine nx_aload_n C0 0 dX6_tastes_123 rfl ?_
            refine nx_gX6_element C0 hh0 hh2 dX6_tastes_124 ?_
            refine nx_bipush (v := 100) C0 dX6_tastes_127 (by decide) ?_
            refine nx_iload_n C0 1 dX6_tastes_129 rfl ?_
            refine nx_imul C0 dX6_tastes_130 ?_
            refine nx_iload C0 6 dX6_tastes_131 rfl ?_
            refine nx_iadd C0 dX6_tastes_133 ?_
            obtain ⟨g12, h⟩ := nguard h
            refine nx_iald C0 nI_77 g12 dX6_tastes_134 ?_
            refine nx_aload_n C0 0 dX6_tastes_135 rfl ?_
            refine nx_gX6_m C0 hh0 hh4 dX6_tastes_136 ?_
            refine nx_iload_n C0 2 dX6_tastes_139 rfl ?_
            refine nx_iload C0 6 dX6_tastes_140 rfl ?_
            obtain ⟨r14, c13, h⟩ := nbind h
            refine nx_cSi (n := 3) (As := [.ref (na B 65), .int a2, .int a7]) (st := [.int (σ 77 ((((100 : Int32) * a1) + a7)).toNatClampNeg), .int a6]) C0 (mX6_worthIn l D B hB nR65 a2 a7 σ c13) gX6_tastes_X6_worthIn rfl rfl rfl ndX6_worthIn ⟨Nat.le_of_ble_eq_true rfl, Nat.le_of_ble_eq_true rfl⟩ rfl (Nat.le_of_ble_eq_true rfl) rfl dX6_tastes_142 ?_
            refine nx_icmp_ne (tgt := 152) C0 dX6_tastes_145 (by decide) (fun q => ?_) (fun q => ?_)
            · have h := niff q h
              refine nx_iconst (v := 0) C0 dX6_tastes_152 (by decide) ?_
              refine nx_iand C0 dX6_tastes_153 ?_
              obtain ⟨v15, ev15, h⟩ := nlet h
              refine nx_istore (i := 6) (y := v15) (lv' := [(6, .int v15), (0, .ref (na B 63)), (1, .int a1), (2, .int a2), (4, .int a4), (5, .int a5), (7, .int a7)]) C0 dX6_tastes_154 (by decide) ev15 rfl ?_
              obtain ⟨v16, ev16, h⟩ := nlet h
              refine nx_iinc (v := v16) (lv' := [(7, .int v16), (6, .int v15), (0, .ref (na B 63)), (1, .int a1), (2, .int a2), (4, .int a4), (5, .int a5)]) C0 6 dX6_tastes_156 rfl ev16 (by decide) rfl ?_
              refine nx_goto (tgt := 86) C0 dX6_tastes_159 (by decide) ?_
              refine nx_lv (lv' := [(0, .ref (na B 63)), (1, .int a1), (2, .int a2), (4, .int a4), (5, .int a5), (6, .int v15), (7, .int v16)]) [2, 3, 4, 5, 6, 1, 0] rfl ?_
              exact ih a1 a2 a4 a5 v15 v16 σ h
            · have h := nift q h
              refine nx_iconst (v := 1) C0 dX6_tastes_148 (by decide) ?_
              refine nx_goto (tgt := 153) C0 dX6_tastes_149 (by decide) ?_
              refine nx_iand C0 dX6_tastes_153 ?_
              obtain ⟨v17, ev17, h⟩ := nlet h
              refine nx_istore (i := 6) (y := v17) (lv' := [(6, .int v17), (0, .ref (na B 63)), (1, .int a1), (2, .int a2), (4, .int a4), (5, .int a5), (7, .int a7)]) C0 dX6_tastes_154 (by decide) ev17 rfl ?_
              obtain ⟨v18, ev18, h⟩ := nlet h
              refine nx_iinc (v := v18) (lv' := [(7, .int v18), (6, .int v17), (0, .ref (na B 63)), (1, .int a1), (2, .int a2), (4, .int a4), (5, .int a5)]) C0 6 dX6_tastes_156 rfl ev18 (by decide) rfl ?_
              refine nx_goto (tgt := 86) C0 dX6_tastes_159 (by decide) ?_
              refine nx_lv (lv' := [(0, .ref (na B 63)), (1, .int a1), (2, .int a2), (4, .int a4), (5, .int a5), (6, .int v17), (7, .int v18)]) [2, 3, 4, 5, 6, 1, 0] rfl ?_
              exact ih a1 a2 a4 a5 v17 v18 σ h
  have hfX6_tastes_b62 : ∀  (n : Nat) (a1 : Int32) (a2 : Int32) (a4 : Int32) (a5 : Int32) (σ : nS) (h : fX6_tastes_b62  n a1 a2 a4 a5 σ = some (r, σ1)), nJ p l e rmX6_tastes s m args below meth c 0 0 (MQ below (nQi D B r σ1 s.heap.size) args s 0 0 (nA B s.heap.size)) D B 8 62 [(0, .ref (na B 63)), (1, .int a1), (2, .int a2), (4, .int a4), (5, .int a5)] [] σ := by
    intro  n
    induction n with
    | zero => intro a1 a2 a4 a5 σ h; cases h
    | succ n ih =>
        intro a1 a2 a4 a5 σ h
        rw [fX6_tastes_b62] at h
        refine nx_iload C0 4 dX6_tastes_62 rfl ?_
        refine nx_bipush (v := 10) C0 dX6_tastes_64 (by decide) ?_
        refine nx_icmp_ge (tgt := 186) C0 dX6_tastes_66 (by decide) (fun q => ?_) (fun q => ?_)
        · have h := nift q h
          refine nx_iload C0 3 dX6_tastes_186 rfl ?_
          exact nr_i2 C0 hr dX6_tastes_188 h
        · have h := niff q h
          refine nx_iconst (v := 1) C0 dX6_tastes_69 (by decide) ?_
          refine nx_istore (i := 6) (y := (1 : Int32)) (lv' := [(6, .int (1 : Int32)), (0, .ref (na B 63)), (1, .int a1), (2, .int a2), (4, .int a4), (5, .int a5)]) C0 dX6_tastes_70 (by decide) rfl rfl ?_
          refine nx_aload_n C0 1 dX6_tastes_72 rfl ?_
          refine nx_gX6_m C0 hh0 hh4 dX6_tastes_73 ?_
          refine nx_bipush (v := 28) C0 dX6_tastes_76 (by decide) ?_
          refine nx_iload_n C0 3 dX6_tastes_78 rfl ?_
          refine nx_iadd C0 dX6_tastes_79 ?_
          refine nx_iload C0 5 dX6_tastes_80 rfl ?_
          obtain ⟨g19, h⟩ := nguard h
          obtain ⟨t20, et20, h⟩ := nlet h
          refine nx_iast C0 nI_65 g19 dX6_tastes_82 et20 ?_
          refine nx_iconst (v := 0) C0 dX6_tastes_83 (by decide) ?_
          refine nx_istore (i := 7) (y := (0 : Int32)) (lv' := [(7, .int (0 : Int32)), (6, .int (1 : Int32)), (0, .ref (na B 63)), (1, .int a1), (2, .int a2), (4, .int a4), (5, .int a5)]) C0 dX6_tastes_84 (by decide) rfl rfl ?_
          refine nx_lv (lv' := [(0, .ref (na B 63)), (1, .int a1), (2, .int a2), (4, .int a4), (5, .int a5), (6, .int (1 : Int32)), (7, .int (0 : Int32))]) [2, 3, 4, 5, 6, 1, 0] rfl ?_
          exact hfX6_tastes_b86 (fX6_tastes_b62 n) ih 4096 a1 a2 a4 a5 (1 : Int32) (0 : Int32) t20 h
  have hfX6_tastes_b39 : ∀  (a1 : Int32) (a2 : Int32) (a3 : Int32) (σ : nS) (h : fX6_tastes_b39  a1 a2 a3 σ = some (r, σ1)), nJ p l e rmX6_tastes s m args below meth c 0 0 (MQ below (nQi D B r σ1 s.heap.size) args s 0 0 (nA B s.heap.size)) D B 8 39 [(0, .ref (na B 63)), (1, .int a1), (2, .int a2), (3, .int a3)] [] σ := by
    intro  a1 a2 a3 σ h
    rw [fX6_tastes_b39] at h
    refine nx_iload_n C0 3 dX6_tastes_39 rfl ?_
    refine nx_if_eq (tgt := 45) C0 dX6_tastes_40 (by decide) (fun q => ?_) (fun q => ?_)
    · have h := nift q h
      refine nx_iconst (v := 0) C0 dX6_tastes_45 (by decide) ?_
      refine nx_istore (i := 4) (y := (0 : Int32)) (lv' := [(4, .int (0 : Int32)), (0, .ref (na B 63)), (1, .int a1), (2, .int a2), (3, .int a3)]) C0 dX6_tastes_46 (by decide) rfl rfl ?_
      refine nx_aload_n C0 1 dX6_tastes_48 rfl ?_
      refine nx_gX6_s C0 hh0 hh5 dX6_tastes_49 ?_
      refine nx_aload_n C0 1 dX6_tastes_52 rfl ?_
      refine nx_gX6_m C0 hh0 hh4 dX6_tastes_53 ?_
      obtain ⟨r22, t23, c21, h⟩ := nbind2 h
      refine nx_cSv (n := 2) (As := [.ref (na B 64), .ref (na B 65)]) (st := []) C0 (mX6_copies l D B hB nR64 nR65 σ c21) gX6_tastes_X6_copies rfl rfl rfl ndX6_copies ⟨Nat.le_of_ble_eq_true rfl, Nat.le_of_ble_eq_true rfl⟩ rfl (Nat.le_of_ble_eq_true rfl) rfl dX6_tastes_56 ?_
      refine nx_iconst (v := 0) C0 dX6_tastes_59 (by decide) ?_
      refine nx_istore (i := 5) (y := (0 : Int32)) (lv' := [(5, .int (0 : Int32)), (4, .int (0 : Int32)), (0, .ref (na B 63)), (1, .int a1), (2, .int a2), (3, .int a3)]) C0 dX6_tastes_60 (by decide) rfl rfl ?_
      refine nx_lv (lv' := [(0, .ref (na B 63)), (1, .int a1), (2, .int a2), (4, .int (0 : Int32)), (5, .int (0 : Int32))]) [2, 3, 4, 1, 0] rfl ?_
      exact hfX6_tastes_b62 4096 a1 a2 (0 : Int32) (0 : Int32) t23 h
    · have h := niff q h
      refine nx_iload_n C0 3 dX6_tastes_43 rfl ?_
      exact nr_i2 C0 hr dX6_tastes_44 h
  refine nx_lv (lv' := [(0, .ref (na B 63)), (1, .int x1), (2, .int x2)]) [0, 1, 2] rfl ?_
  rw [fX6_tastes] at h
  refine nx_aload_n C0 0 dX6_tastes_0 rfl ?_
  refine nx_iload_n C0 2 dX6_tastes_1 rfl ?_
  obtain ⟨r25, c24, h⟩ := nbind h
  refine nx_cVi (ci := 6) (n := 1) (As := [.int x2]) (st := []) C0 (mX6_isPerson l D B hB x2 σ c24) gX6_tastes_X6_isPerson rfl rfl rfl ndX6_isPerson ⟨Nat.le_of_ble_eq_true rfl, Nat.le_of_ble_eq_true rfl⟩ (by decide) rfl rfl rfl rfl (Nat.le_of_ble_eq_true rfl) rfl dX6_tastes_2 ?_
  refine nx_if_ne (tgt := 10) C0 dX6_tastes_5 (by decide) (fun q => ?_) (fun q => ?_)
  · have h := niff q h
    refine nx_aload_n C0 0 dX6_tastes_10 rfl ?_
    refine nx_iload_n C0 1 dX6_tastes_11 rfl ?_
    refine nx_iconst (v := -1) C0 dX6_tastes_12 (by decide) ?_
    obtain ⟨r27, c26, h⟩ := nbind h
    refine nx_cVi (ci := 6) (n := 2) (As := [.int x1, .int (-1 : Int32)]) (st := []) C0 (mX6_wrongRow l D B hB x1 (-1 : Int32) σ c26) gX6_tastes_X6_wrongRow rfl rfl rfl ndX6_wrongRow ⟨Nat.le_of_ble_eq_true rfl, Nat.le_of_ble_eq_true rfl⟩ (by decide) rfl rfl rfl rfl (Nat.le_of_ble_eq_true rfl) rfl dX6_tastes_13 ?_
    refine nx_istore_n (i := 3) (y := r27) (lv' := [(3, .int r27), (0, .ref (na B 63)), (1, .int x1), (2, .int x2)]) C0 dX6_tastes_16 rfl (by decide) rfl rfl ?_
    refine nx_iload_n C0 0 dX6_tastes_17 rfl ?_
    refine nx_if_ne (tgt := 39) C0 dX6_tastes_18 (by decide) (fun q => ?_) (fun q => ?_)
    · have h := niff q h
      refine nx_lv (lv' := [(0, .ref (na B 63)), (1, .int x1), (2, .int x2), (3, .int r27)]) [1, 2, 3, 0] rfl ?_
      exact hfX6_tastes_b39 x1 x2 r27 σ h
    · have h := nift q h
      refine nx_aload_n C0 1 dX6_tastes_21 rfl ?_
      refine nx_gX6_size C0 hh0 hh1 dX6_tastes_22 ?_
      refine nx_iload_n C0 2 dX6_tastes_25 rfl ?_
      obtain ⟨g28, h⟩ := nguard h
      refine nx_iald C0 nI_76 g28 dX6_tastes_26 ?_
      refine nx_aload_n C0 1 dX6_tastes_27 rfl ?_
      refine nx_gX6_s C0 hh0 hh5 dX6_tastes_28 ?_
      refine nx_iconst (v := 0) C0 dX6_tastes_31 (by decide) ?_
      obtain ⟨g29, h⟩ := nguard h
      refine nx_iald C0 nI_64 g29 dX6_tastes_32 ?_
      refine nx_icmp_le (tgt := 39) C0 dX6_tastes_33 (by decide) (fun q => ?_) (fun q => ?_)
      · have h := nift q h
        refine nx_lv (lv' := [(0, .ref (na B 63)), (1, .int x1), (2, .int x2), (3, .int r27)]) [1, 2, 3, 0] rfl ?_
        exact hfX6_tastes_b39 x1 x2 r27 σ h
      · have h := niff q h
        refine nx_bipush (v := -13) C0 dX6_tastes_36 (by decide) ?_
        refine nx_istore_n (i := 3) (y := (-13 : Int32)) (lv' := [(3, .int (-13 : Int32)), (0, .ref (na B 63)), (1, .int x1), (2, .int x2)]) C0 dX6_tastes_38 rfl (by decide) rfl rfl ?_
        refine nx_lv (lv' := [(0, .ref (na B 63)), (1, .int x1), (2, .int x2), (3, .int (-13 : Int32))]) [1, 2, 3, 0] rfl ?_
        exact hfX6_tastes_b39 x1 x2 (-13 : Int32) σ h
  · have h := nift q h
    refine nx_iconst (v := -1) C0 dX6_tastes_8 (by decide) ?_
    exact nr_i2 C0 hr dX6_tastes_9 h
def rmX6_hasBy : Room := { frames := 4, cells := 0, slots := 0, locals := 90 }
theorem ndX6_hasBy : yX6_hasBy.cls = RX6 ∧ yX6_hasBy.cls ≠ "java/lang/invoke/MethodHandle" ∧ yX6_hasBy.cls ≠ "java/lang/invoke/VarHandle" ∧ (parseMethodDescriptor yX6_hasBy.desc).map (fun d => d.parameters.length) = some 4 := by decide +kernel
set_option maxRecDepth 100000 in
set_option maxHeartbeats 4000000 in
theorem mX6_hasBy (l : Launch) (D : va_G) (B : nBT) (hB : nInj B) (x1 : Int32) (x2 : Int32) (x3 : Int32) (x4 : Int32) (σ : nS) {r : Int32}  (h : fX6_hasBy x1 x2 x3 x4 σ = some r) : nMi l D B yX6_hasBy wsX6_hasBy rmX6_hasBy [.ref (na B 63), .int x1, .int x2, .int x3, .int x4] σ r σ := by
  refine nmet (cc := cX6_hasBy) (maxL := 7) (ret := (some .int)) (own := RX6) (av := [.ref (na B 63), .int x1, .int x2, .int x3, .int x4]) (nQi D B r σ) hB (by decide) rfl rfl (Nat.le_of_ble_eq_true rfl) (fun p e s m args below meth c C0 hr => ?_)
  have hh0 : ∀ w ∈ wsX60, w ∈ wsX6_hasBy := by decide +kernel
  have hh1 := C0.2.2.2.2.1 (Cond.fieldLink RX6 9 "NotInTheCoinModel" "s" "[I") (by decide +kernel)
  have hfX6_hasBy_b26 : ∀  (a1 : Int32) (a2 : Int32) (a3 : Int32) (a4 : Int32) (z0 : Int32) (h : fX6_hasBy_b26  a1 a2 a3 a4 z0 σ = some r), nJ p l e rmX6_hasBy s m args below meth c 0 0 (MQ below (nQi D B r σ s.heap.size) args s 0 0 (nA B s.heap.size)) D B 7 26 [(0, .ref (na B 63)), (1, .int a1), (2, .int a2), (3, .int a3), (4, .int a4)] [.int z0] σ := by
    intro  a1 a2 a3 a4 z0 h
    rw [fX6_hasBy_b26] at h
    refine nx_istore (i := 5) (y := z0) (lv' := [(5, .int z0), (0, .ref (na B 63)), (1, .int a1), (2, .int a2), (3, .int a3), (4, .int a4)]) C0 dX6_hasBy_26 (by decide) rfl rfl ?_
    refine nx_aload_n C0 1 dX6_hasBy_28 rfl ?_
    refine nx_gX6_s C0 hh0 hh1 dX6_hasBy_29 ?_
    refine nx_iload_n C0 2 dX6_hasBy_32 rfl ?_
    refine nx_aload_n C0 1 dX6_hasBy_33 rfl ?_
    refine nx_iload_n C0 4 dX6_hasBy_34 rfl ?_
    obtain ⟨r2, c1, h⟩ := nbind h
    refine nx_cVi (ci := 6) (n := 1) (As := [.int a3]) (st := [.int a1, .ref (na B 64)]) C0 (mX6_worstOf l D B hB a3 σ c1) gX6_hasBy_X6_worstOf rfl rfl rfl ndX6_worstOf ⟨Nat.le_of_ble_eq_true rfl, Nat.le_of_ble_eq_true rfl⟩ (by decide) rfl rfl rfl rfl (Nat.le_of_ble_eq_true rfl) rfl dX6_hasBy_35 ?_
    obtain ⟨r4, c3, h⟩ := nbind h
    refine nx_cSi (n := 3) (As := [.ref (na B 64), .int a1, .int r2]) (st := []) C0 (mX6_worthIn l D B hB nR64 a1 r2 σ c3) gX6_hasBy_X6_worthIn rfl rfl rfl ndX6_worthIn ⟨Nat.le_of_ble_eq_true rfl, Nat.le_of_ble_eq_true rfl⟩ rfl (Nat.le_of_ble_eq_true rfl) rfl dX6_hasBy_38 ?_
    refine nx_istore (i := 6) (y := r4) (lv' := [(6, .int r4), (5, .int z0), (0, .ref (na B 63)), (1, .int a1), (2, .int a2), (3, .int a3), (4, .int a4)]) C0 dX6_hasBy_41 (by decide) rfl rfl ?_
    refine nx_iload C0 1 dX6_hasBy_43 rfl ?_
    refine nx_iload C0 6 dX6_hasBy_45 rfl ?_
    refine nx_if_ne (tgt := 54) C0 dX6_hasBy_47 (by decide) (fun q => ?_) (fun q => ?_)
    · have h := niff q h
      refine nx_iload_n C0 4 dX6_hasBy_54 rfl ?_
      refine nx_if_ne (tgt := 63) C0 dX6_hasBy_55 (by decide) (fun q => ?_) (fun q => ?_)
      · have h := niff q h
        refine nx_iload C0 0 dX6_hasBy_63 rfl ?_
        refine nx_iconst (v := 2) C0 dX6_hasBy_65 (by decide) ?_
        refine nx_idiv C0 dX6_hasBy_66 (by decide) ?_
        refine nx_iadd C0 dX6_hasBy_67 ?_
        exact nr_i C0 hr dX6_hasBy_68 h
      · have h := nift q h
        refine nx_iload C0 0 dX6_hasBy_58 rfl ?_
        refine nx_goto (tgt := 67) C0 dX6_hasBy_60 (by decide) ?_
        refine nx_iadd C0 dX6_hasBy_67 ?_
        exact nr_i C0 hr dX6_hasBy_68 h
    · have h := nift q h
      refine nx_iconst (v := 0) C0 dX6_hasBy_50 (by decide) ?_
      refine nx_goto (tgt := 67) C0 dX6_hasBy_51 (by decide) ?_
      refine nx_iadd C0 dX6_hasBy_67 ?_
      exact nr_i C0 hr dX6_hasBy_68 h
  refine nx_lv (lv' := [(0, .ref (na B 63)), (1, .int x1), (2, .int x2), (3, .int x3), (4, .int x4)]) [0, 1, 2, 3, 4] rfl ?_
  rw [fX6_hasBy] at h
  refine nx_iload_n C0 2 dX6_hasBy_0 rfl ?_
  refine nx_iconst (v := 1) C0 dX6_hasBy_1 (by decide) ?_
  refine nx_icmp_ne (tgt := 25) C0 dX6_hasBy_2 (by decide) (fun q => ?_) (fun q => ?_)
  · have h := niff q h
    refine nx_iconst (v := 0) C0 dX6_hasBy_25 (by decide) ?_
    exact hfX6_hasBy_b26 x1 x2 x3 x4 (0 : Int32) h
  · have h := nift q h
    refine nx_iconst (v := 3) C0 dX6_hasBy_5 (by decide) ?_
    refine nx_aload_n C0 0 dX6_hasBy_6 rfl ?_
    refine nx_gX6_s C0 hh0 hh1 dX6_hasBy_7 ?_
    refine nx_iload_n C0 1 dX6_hasBy_10 rfl ?_
    refine nx_aload_n C0 0 dX6_hasBy_11 rfl ?_
    refine nx_iload_n C0 1 dX6_hasBy_12 rfl ?_
    obtain ⟨r6, c5, h⟩ := nbind h
    refine nx_cVi (ci := 6) (n := 1) (As := [.int x1]) (st := [.int x1, .ref (na B 64), .int (3 : Int32)]) C0 (mX6_worstOf l D B hB x1 σ c5) gX6_hasBy_X6_worstOf rfl rfl rfl ndX6_worstOf ⟨Nat.le_of_ble_eq_true rfl, Nat.le_of_ble_eq_true rfl⟩ (by decide) rfl rfl rfl rfl (Nat.le_of_ble_eq_true rfl) rfl dX6_hasBy_13 ?_
    obtain ⟨r8, c7, h⟩ := nbind h
    refine nx_cSi (n := 3) (As := [.ref (na B 64), .int x1, .int r6]) (st := [.int (3 : Int32)]) C0 (mX6_worthIn l D B hB nR64 x1 r6 σ c7) gX6_hasBy_X6_worthIn rfl rfl rfl ndX6_worthIn ⟨Nat.le_of_ble_eq_true rfl, Nat.le_of_ble_eq_true rfl⟩ rfl (Nat.le_of_ble_eq_true rfl) rfl dX6_hasBy_16 ?_
    refine nx_iconst (v := 2) C0 dX6_hasBy_19 (by decide) ?_
    refine nx_idiv C0 dX6_hasBy_20 (by decide) ?_
    refine nx_isub C0 dX6_hasBy_21 ?_
    refine nx_goto (tgt := 26) C0 dX6_hasBy_22 (by decide) ?_
    exact hfX6_hasBy_b26 x1 x2 x3 x4 ((3 : Int32) - (r8 / (2 : Int32))) h
def rmX6_two : Room := { frames := 5, cells := 0, slots := 0, locals := 116 }
theorem ndX6_two : yX6_two.cls = RX6 ∧ yX6_two.cls ≠ "java/lang/invoke/MethodHandle" ∧ yX6_two.cls ≠ "java/lang/invoke/VarHandle" ∧ (parseMethodDescriptor yX6_two.desc).map (fun d => d.parameters.length) = some 2 := by decide +kernel
set_option maxRecDepth 100000 in
set_option maxHeartbeats 4000000 in
theorem mX6_two (l : Launch) (D : va_G) (B : nBT) (hB : nInj B) (x1 : Int32) (x2 : Int32) (σ : nS) {r : Int32}  (h : fX6_two x1 x2 σ = some r) : nMi l D B yX6_two wsX6_two rmX6_two [.ref (na B 63), .int x1, .int x2] σ r σ := by
  refine nmet (cc := cX6_two) (maxL := 6) (ret := (some .int)) (own := RX6) (av := [.ref (na B 63), .int x1, .int x2]) (nQi D B r σ) hB (by decide) rfl rfl (Nat.le_of_ble_eq_true rfl) (fun p e s m args below meth c C0 hr => ?_)
  have hfX6_two_b44 : ∀  (n : Nat) (a1 : Int32) (a2 : Int32) (a3 : Int32) (h : fX6_two_b44  n a1 a2 a3 σ = some r), nJ p l e rmX6_two s m args below meth c 0 0 (MQ below (nQi D B r σ s.heap.size) args s 0 0 (nA B s.heap.size)) D B 6 44 [(0, .ref (na B 63)), (1, .int a1), (2, .int a2), (3, .int a3)] [] σ := by
    intro  n
    induction n with
    | zero => intro a1 a2 a3 h; cases h
    | succ n ih =>
        intro a1 a2 a3 h
        rw [fX6_two_b44] at h
        refine nx_iload_n C0 3 dX6_two_44 rfl ?_
        refine nx_iconst (v := 4) C0 dX6_two_45 (by decide) ?_
        refine nx_icmp_ge (tgt := 124) C0 dX6_two_46 (by decide) (fun q => ?_) (fun q => ?_)
        · have h := nift q h
          refine nx_bipush (v := -4) C0 dX6_two_124 (by decide) ?_
          exact nr_i C0 hr dX6_two_126 h
        · have h := niff q h
          refine nx_iload_n C0 3 dX6_two_49 rfl ?_
          refine nx_iconst (v := 2) C0 dX6_two_50 (by decide) ?_
          refine nx_idiv C0 dX6_two_51 (by decide) ?_
          obtain ⟨v1, ev1, h⟩ := nlet h
          refine nx_istore (i := 4) (y := v1) (lv' := [(4, .int v1), (0, .ref (na B 63)), (1, .int a1), (2, .int a2), (3, .int a3)]) C0 dX6_two_52 (by decide) ev1 rfl ?_
          refine nx_iload_n C0 4 dX6_two_54 rfl ?_
          refine nx_iconst (v := 2) C0 dX6_two_55 (by decide) ?_
          refine nx_irem C0 dX6_two_56 (by decide) ?_
          obtain ⟨v2, ev2, h⟩ := nlet h
          refine nx_istore (i := 5) (y := v2) (lv' := [(5, .int v2), (4, .int v1), (0, .ref (na B 63)), (1, .int a1), (2, .int a2), (3, .int a3)]) C0 dX6_two_57 (by decide) ev2 rfl ?_
          refine nx_aload_n C0 2 dX6_two_59 rfl ?_
          refine nx_iload_n C0 3 dX6_two_60 rfl ?_
          refine nx_iconst (v := 1) C0 dX6_two_61 (by decide) ?_
          refine nx_iload C0 1 dX6_two_62 rfl ?_
          refine nx_isub C0 dX6_two_64 ?_
          refine nx_iload_n C0 4 dX6_two_65 rfl ?_
          refine nx_iload C0 0 dX6_two_66 rfl ?_
          obtain ⟨r4, c3, h⟩ := nbind h
          refine nx_cVi (ci := 6) (n := 4) (As := [.int a1, .int ((1 : Int32) - v1), .int a2, .int v2]) (st := []) C0 (mX6_hasBy l D B hB a1 ((1 : Int32) - v1) a2 v2 σ c3) gX6_two_X6_hasBy rfl rfl rfl ndX6_hasBy ⟨Nat.le_of_ble_eq_true rfl, Nat.le_of_ble_eq_true rfl⟩ (by decide) rfl rfl rfl rfl (Nat.le_of_ble_eq_true rfl) rfl dX6_two_68 ?_
          refine nx_aload_n C0 2 dX6_two_71 rfl ?_
          refine nx_iload_n C0 3 dX6_two_72 rfl ?_
          refine nx_iload C0 1 dX6_two_73 rfl ?_
          refine nx_iload_n C0 4 dX6_two_75 rfl ?_
          refine nx_iload C0 0 dX6_two_76 rfl ?_
          obtain ⟨r6, c5, h⟩ := nbind h
          refine nx_cVi (ci := 6) (n := 4) (As := [.int a1, .int v1, .int a2, .int v2]) (st := [.int r4]) C0 (mX6_hasBy l D B hB a1 v1 a2 v2 σ c5) gX6_two_X6_hasBy rfl rfl rfl ndX6_hasBy ⟨Nat.le_of_ble_eq_true rfl, Nat.le_of_ble_eq_true rfl⟩ (by decide) rfl rfl rfl rfl (Nat.le_of_ble_eq_true rfl) rfl dX6_two_78 ?_
          refine nx_icmp_gt (tgt := 118) C0 dX6_two_81 (by decide) (fun q => ?_) (fun q => ?_)
          · have h := nift q h
            obtain ⟨v7, ev7, h⟩ := nlet h
            refine nx_iinc (v := v7) (lv' := [(3, .int v7), (5, .int v2), (4, .int v1), (0, .ref (na B 63)), (1, .int a1), (2, .int a2)]) C0 5 dX6_two_118 rfl ev7 (by decide) rfl ?_
            refine nx_goto (tgt := 44) C0 dX6_two_121 (by decide) ?_
            refine nx_lv (lv' := [(0, .ref (na B 63)), (1, .int a1), (2, .int a2), (3, .int v7)]) [3, 4, 5, 0] rfl ?_
            exact ih a1 a2 v7 h
          · have h := niff q h
            refine nx_aload_n C0 2 dX6_two_84 rfl ?_
            refine nx_iload_n C0 4 dX6_two_85 rfl ?_
            refine nx_iconst (v := 1) C0 dX6_two_86 (by decide) ?_
            refine nx_iload C0 0 dX6_two_87 rfl ?_
            refine nx_isub C0 dX6_two_89 ?_
            refine nx_iload_n C0 3 dX6_two_90 rfl ?_
            refine nx_iload C0 1 dX6_two_91 rfl ?_
            obtain ⟨r9, c8, h⟩ := nbind h
            refine nx_cVi (ci := 6) (n := 4) (As := [.int a2, .int ((1 : Int32) - v2), .int a1, .int v1]) (st := []) C0 (mX6_hasBy l D B hB a2 ((1 : Int32) - v2) a1 v1 σ c8) gX6_two_X6_hasBy rfl rfl rfl ndX6_hasBy ⟨Nat.le_of_ble_eq_true rfl, Nat.le_of_ble_eq_true rfl⟩ (by decide) rfl rfl rfl rfl (Nat.le_of_ble_eq_true rfl) rfl dX6_two_93 ?_
            refine nx_aload_n C0 2 dX6_two_96 rfl ?_
            refine nx_iload_n C0 4 dX6_two_97 rfl ?_
            refine nx_iload C0 0 dX6_two_98 rfl ?_
            refine nx_iload_n C0 3 dX6_two_100 rfl ?_
            refine nx_iload C0 1 dX6_two_101 rfl ?_
            obtain ⟨r11, c10, h⟩ := nbind h
            refine nx_cVi (ci := 6) (n := 4) (As := [.int a2, .int v2, .int a1, .int v1]) (st := [.int r9]) C0 (mX6_hasBy l D B hB a2 v2 a1 v1 σ c10) gX6_two_X6_hasBy rfl rfl rfl ndX6_hasBy ⟨Nat.le_of_ble_eq_true rfl, Nat.le_of_ble_eq_true rfl⟩ (by decide) rfl rfl rfl rfl (Nat.le_of_ble_eq_true rfl) rfl dX6_two_103 ?_
            refine nx_icmp_gt (tgt := 118) C0 dX6_two_106 (by decide) (fun q => ?_) (fun q => ?_)
            · have h := nift q h
              obtain ⟨v12, ev12, h⟩ := nlet h
              refine nx_iinc (v := v12) (lv' := [(3, .int v12), (5, .int v2), (4, .int v1), (0, .ref (na B 63)), (1, .int a1), (2, .int a2)]) C0 5 dX6_two_118 rfl ev12 (by decide) rfl ?_
              refine nx_goto (tgt := 44) C0 dX6_two_121 (by decide) ?_
              refine nx_lv (lv' := [(0, .ref (na B 63)), (1, .int a1), (2, .int a2), (3, .int v12)]) [3, 4, 5, 0] rfl ?_
              exact ih a1 a2 v12 h
            · have h := niff q h
              refine nx_bipush (v := 10) C0 dX6_two_109 (by decide) ?_
              refine nx_iload C0 1 dX6_two_111 rfl ?_
              refine nx_imul C0 dX6_two_113 ?_
              refine nx_iload C0 0 dX6_two_114 rfl ?_
              refine nx_iadd C0 dX6_two_116 ?_
              exact nr_i C0 hr dX6_two_117 h
  refine nx_lv (lv' := [(0, .ref (na B 63)), (1, .int x1), (2, .int x2)]) [0, 1, 2] rfl ?_
  rw [fX6_two] at h
  refine nx_aload_n C0 0 dX6_two_0 rfl ?_
  refine nx_iload_n C0 1 dX6_two_1 rfl ?_
  obtain ⟨r14, c13, h⟩ := nbind h
  refine nx_cVi (ci := 6) (n := 1) (As := [.int x1]) (st := []) C0 (mX6_isPerson l D B hB x1 σ c13) gX6_two_X6_isPerson rfl rfl rfl ndX6_isPerson ⟨Nat.le_of_ble_eq_true rfl, Nat.le_of_ble_eq_true rfl⟩ (by decide) rfl rfl rfl rfl (Nat.le_of_ble_eq_true rfl) rfl dX6_two_2 ?_
  refine nx_if_eq (tgt := 21) C0 dX6_two_5 (by decide) (fun q => ?_) (fun q => ?_)
  · have h := nift q h
    refine nx_iconst (v := -1) C0 dX6_two_21 (by decide) ?_
    exact nr_i C0 hr dX6_two_22 h
  · have h := niff q h
    refine nx_aload_n C0 0 dX6_two_8 rfl ?_
    refine nx_iload_n C0 2 dX6_two_9 rfl ?_
    obtain ⟨r16, c15, h⟩ := nbind h
    refine nx_cVi (ci := 6) (n := 1) (As := [.int x2]) (st := []) C0 (mX6_isPerson l D B hB x2 σ c15) gX6_two_X6_isPerson rfl rfl rfl ndX6_isPerson ⟨Nat.le_of_ble_eq_true rfl, Nat.le_of_ble_eq_true rfl⟩ (by decide) rfl rfl rfl rfl (Nat.le_of_ble_eq_true rfl) rfl dX6_two_10 ?_
    refine nx_if_eq (tgt := 21) C0 dX6_two_13 (by decide) (fun q => ?_) (fun q => ?_)
    · have h := nift q h
      refine nx_iconst (v := -1) C0 dX6_two_21 (by decide) ?_
      exact nr_i C0 hr dX6_two_22 h
    · have h := niff q h
      refine nx_iload_n C0 1 dX6_two_16 rfl ?_
      refine nx_iload_n C0 2 dX6_two_17 rfl ?_
      refine nx_icmp_ne (tgt := 23) C0 dX6_two_18 (by decide) (fun q => ?_) (fun q => ?_)
      · have h := niff q h
        refine nx_aload_n C0 0 dX6_two_23 rfl ?_
        refine nx_iload_n C0 1 dX6_two_24 rfl ?_
        obtain ⟨r18, c17, h⟩ := nbind h
        refine nx_cVi (ci := 6) (n := 1) (As := [.int x1]) (st := []) C0 (mX6_worstOf l D B hB x1 σ c17) gX6_two_X6_worstOf rfl rfl rfl ndX6_worstOf ⟨Nat.le_of_ble_eq_true rfl, Nat.le_of_ble_eq_true rfl⟩ (by decide) rfl rfl rfl rfl (Nat.le_of_ble_eq_true rfl) rfl dX6_two_25 ?_
        refine nx_if_lt (tgt := 39) C0 dX6_two_28 (by decide) (fun q => ?_) (fun q => ?_)
        · have h := nift q h
          refine nx_bipush (v := -3) C0 dX6_two_39 (by decide) ?_
          exact nr_i C0 hr dX6_two_41 h
        · have h := niff q h
          refine nx_aload_n C0 0 dX6_two_31 rfl ?_
          refine nx_iload_n C0 2 dX6_two_32 rfl ?_
          obtain ⟨r20, c19, h⟩ := nbind h
          refine nx_cVi (ci := 6) (n := 1) (As := [.int x2]) (st := []) C0 (mX6_worstOf l D B hB x2 σ c19) gX6_two_X6_worstOf rfl rfl rfl ndX6_worstOf ⟨Nat.le_of_ble_eq_true rfl, Nat.le_of_ble_eq_true rfl⟩ (by decide) rfl rfl rfl rfl (Nat.le_of_ble_eq_true rfl) rfl dX6_two_33 ?_
          refine nx_if_ge (tgt := 42) C0 dX6_two_36 (by decide) (fun q => ?_) (fun q => ?_)
          · have h := nift q h
            refine nx_iconst (v := 0) C0 dX6_two_42 (by decide) ?_
            refine nx_istore_n (i := 3) (y := (0 : Int32)) (lv' := [(3, .int (0 : Int32)), (0, .ref (na B 63)), (1, .int x1), (2, .int x2)]) C0 dX6_two_43 rfl (by decide) rfl rfl ?_
            refine nx_lv (lv' := [(0, .ref (na B 63)), (1, .int x1), (2, .int x2), (3, .int (0 : Int32))]) [1, 2, 3, 0] rfl ?_
            exact hfX6_two_b44 4096 x1 x2 (0 : Int32) h
          · have h := niff q h
            refine nx_bipush (v := -3) C0 dX6_two_39 (by decide) ?_
            exact nr_i C0 hr dX6_two_41 h
      · have h := nift q h
        refine nx_iconst (v := -1) C0 dX6_two_21 (by decide) ?_
        exact nr_i C0 hr dX6_two_22 h
def rmX6_gcd : Room := { frames := 0, cells := 0, slots := 0, locals := 0 }
theorem ndX6_gcd : yX6_gcd.cls ≠ "java/lang/invoke/MethodHandle" ∧ yX6_gcd.cls ≠ "java/lang/invoke/VarHandle" ∧ (parseMethodDescriptor yX6_gcd.desc).map (fun d => d.parameters.length) = some 2 := by decide +kernel
set_option maxRecDepth 100000 in
set_option maxHeartbeats 4000000 in
theorem mX6_gcd (l : Launch) (D : va_G) (B : nBT) (hB : nInj B) (x0 : Int64) (x1 : Int64) (σ : nS) {r : Int64}  (h : fX6_gcd x0 x1 σ = some r) : nMl l D B yX6_gcd wsX6_gcd rmX6_gcd [.long x0, .long x1] σ r σ := by
  refine nmet (cc := cX6_gcd) (maxL := 10) (ret := (some .long)) (own := RX6) (av := [.long x0, .long x1]) (nQl D B r σ) hB (by decide) rfl rfl (Nat.le_of_ble_eq_true rfl) (fun p e s m args below meth c C0 hr => ?_)
  have hfX6_gcd_b6 : ∀  (n : Nat) (a4 : Int64) (a6 : Int64) (h : fX6_gcd_b6  n a4 a6 σ = some r), nJ p l e rmX6_gcd s m args below meth c 0 0 (MQ below (nQl D B r σ s.heap.size) args s 0 0 (nA B s.heap.size)) D B 10 6 [(4, .long a4), (6, .long a6)] [] σ := by
    intro  n
    induction n with
    | zero => intro a4 a6 h; cases h
    | succ n ih =>
        intro a4 a6 h
        rw [fX6_gcd_b6] at h
        refine nx_lload C0 1 dX6_gcd_6 rfl ?_
        refine nx_lconst (v := 0) C0 dX6_gcd_8 (by decide) ?_
        refine nx_lcmp C0 dX6_gcd_9 ?_
        refine nx_if_eq (tgt := 31) C0 dX6_gcd_10 (by decide) (fun q => ?_) (fun q => ?_)
        · have h := nift q h
          refine nx_lload C0 0 dX6_gcd_31 rfl ?_
          exact nr_l C0 hr dX6_gcd_33 h
        · have h := niff q h
          refine nx_lload C0 0 dX6_gcd_13 rfl ?_
          refine nx_lload C0 1 dX6_gcd_15 rfl ?_
          obtain ⟨g1, h⟩ := nguard h
          refine nx_lrem C0 dX6_gcd_17 g1 ?_
          obtain ⟨v2, ev2, h⟩ := nlet h
          refine nx_lstore (i := 8) (y := v2) (lv' := [(8, .long v2), (4, .long a4), (6, .long a6)]) C0 dX6_gcd_18 (by decide) ev2 rfl ?_
          refine nx_lload C0 2 dX6_gcd_20 rfl ?_
          refine nx_lstore (i := 4) (y := a6) (lv' := [(4, .long a6), (8, .long v2), (6, .long a6)]) C0 dX6_gcd_22 (by decide) rfl rfl ?_
          refine nx_lload C0 1 dX6_gcd_24 rfl ?_
          refine nx_lstore (i := 6) (y := v2) (lv' := [(6, .long v2), (4, .long a6), (8, .long v2)]) C0 dX6_gcd_26 (by decide) rfl rfl ?_
          refine nx_goto (tgt := 6) C0 dX6_gcd_28 (by decide) ?_
          refine nx_lv (lv' := [(4, .long a6), (6, .long v2)]) [1, 0] rfl ?_
          exact ih a6 v2 h
  refine nx_lv (lv' := [(0, .long x0), (2, .long x1)]) [0, 1] rfl ?_
  rw [fX6_gcd] at h
  refine nx_lload_n C0 0 dX6_gcd_0 rfl ?_
  refine nx_lstore (i := 4) (y := x0) (lv' := [(4, .long x0), (0, .long x0), (2, .long x1)]) C0 dX6_gcd_1 (by decide) rfl rfl ?_
  refine nx_lload_n C0 2 dX6_gcd_3 rfl ?_
  refine nx_lstore (i := 6) (y := x1) (lv' := [(6, .long x1), (4, .long x0), (0, .long x0), (2, .long x1)]) C0 dX6_gcd_4 (by decide) rfl rfl ?_
  refine nx_lv (lv' := [(4, .long x0), (6, .long x1)]) [1, 0] rfl ?_
  exact hfX6_gcd_b6 4096 x0 x1 h
def rmX6_partOf : Room := { frames := 1, cells := 0, slots := 0, locals := 29 }
theorem ndX6_partOf : yX6_partOf.cls ≠ "java/lang/invoke/MethodHandle" ∧ yX6_partOf.cls ≠ "java/lang/invoke/VarHandle" ∧ (parseMethodDescriptor yX6_partOf.desc).map (fun d => d.parameters.length) = some 3 := by decide +kernel
set_option maxRecDepth 100000 in
set_option maxHeartbeats 4000000 in
theorem mX6_partOf (l : Launch) (D : va_G) (B : nBT) (hB : nInj B) (x0 : Int64) (x1 : Int64) (x2 : Int32) (σ : nS) {r : Int64}  (h : fX6_partOf x0 x1 x2 σ = some r) : nMl l D B yX6_partOf wsX6_partOf rmX6_partOf [.long x0, .long x1, .int x2] σ r σ := by
  refine nmet (cc := cX6_partOf) (maxL := 5) (ret := (some .long)) (own := RX6) (av := [.long x0, .long x1, .int x2]) (nQl D B r σ) hB (by decide) rfl rfl (Nat.le_of_ble_eq_true rfl) (fun p e s m args below meth c C0 hr => ?_)
  have hfX6_partOf_b20 : ∀  (a0 : Int64) (a2 : Int64) (z0 : Int64) (h : fX6_partOf_b20  a0 a2 z0 σ = some r), nJ p l e rmX6_partOf s m args below meth c 0 0 (MQ below (nQl D B r σ s.heap.size) args s 0 0 (nA B s.heap.size)) D B 5 20 [(0, .long a0), (2, .long a2)] [.long z0] σ := by
    intro  a0 a2 z0 h
    rw [fX6_partOf_b20] at h
    refine nx_lload_n C0 0 dX6_partOf_20 rfl ?_
    refine nx_lload_n C0 1 dX6_partOf_21 rfl ?_
    obtain ⟨r2, c1, h⟩ := nbind h
    refine nx_cSl (n := 2) (As := [.long a0, .long a2]) (st := [.long z0]) C0 (mX6_gcd l D B hB a0 a2 σ c1) gX6_partOf_X6_gcd rfl rfl rfl ndX6_gcd ⟨Nat.le_of_ble_eq_true rfl, Nat.le_of_ble_eq_true rfl⟩ rfl (Nat.le_of_ble_eq_true rfl) rfl dX6_partOf_22 ?_
    obtain ⟨g3, h⟩ := nguard h
    refine nx_ldiv C0 dX6_partOf_25 g3 ?_
    exact nr_l C0 hr dX6_partOf_26 h
  refine nx_lv (lv' := [(0, .long x0), (2, .long x1), (4, .int x2)]) [0, 1, 2] rfl ?_
  rw [fX6_partOf] at h
  refine nx_lload_n C0 0 dX6_partOf_0 rfl ?_
  refine nx_lconst (v := 0) C0 dX6_partOf_1 (by decide) ?_
  refine nx_lcmp C0 dX6_partOf_2 ?_
  refine nx_if_ne (tgt := 10) C0 dX6_partOf_3 (by decide) (fun q => ?_) (fun q => ?_)
  · have h := niff q h
    refine nx_iload C0 2 dX6_partOf_10 rfl ?_
    refine nx_if_ne (tgt := 19) C0 dX6_partOf_12 (by decide) (fun q => ?_) (fun q => ?_)
    · have h := niff q h
      refine nx_lload_n C0 1 dX6_partOf_19 rfl ?_
      refine nx_lv (lv' := [(0, .long x0), (2, .long x1)]) [0, 1] rfl ?_
      exact hfX6_partOf_b20 x0 x1 x1 h
    · have h := nift q h
      refine nx_lload_n C0 0 dX6_partOf_15 rfl ?_
      refine nx_goto (tgt := 20) C0 dX6_partOf_16 (by decide) ?_
      refine nx_lv (lv' := [(0, .long x0), (2, .long x1)]) [0, 1] rfl ?_
      exact hfX6_partOf_b20 x0 x1 x0 h
  · have h := nift q h
    refine nx_iload C0 2 dX6_partOf_6 rfl ?_
    refine nx_i2l C0 dX6_partOf_8 ?_
    exact nr_l C0 hr dX6_partOf_9 h
def rmX6_market : Room := { frames := 5, cells := 0, slots := 0, locals := 114 }
theorem ndX6_market : yX6_market.cls = RX6 ∧ yX6_market.cls ≠ "java/lang/invoke/MethodHandle" ∧ yX6_market.cls ≠ "java/lang/invoke/VarHandle" ∧ (parseMethodDescriptor yX6_market.desc).map (fun d => d.parameters.length) = some 4 := by decide +kernel
set_option maxRecDepth 100000 in
set_option maxHeartbeats 4000000 in
theorem mX6_market (l : Launch) (D : va_G) (B : nBT) (hB : nInj B) (x1 : Int32) (x2 : Int32) (x3 : Int32) (x4 : Int32) (σ : nS) {r : Int64}  (h : fX6_market x1 x2 x3 x4 σ = some r) : nMl l D B yX6_market wsX6_market rmX6_market [.ref (na B 63), .int x1, .int x2, .int x3, .int x4] σ r σ := by
  refine nmet (cc := cX6_market) (maxL := 11) (ret := (some .long)) (own := RX6) (av := [.ref (na B 63), .int x1, .int x2, .int x3, .int x4]) (nQl D B r σ) hB (by decide) rfl rfl (Nat.le_of_ble_eq_true rfl) (fun p e s m args below meth c C0 hr => ?_)
  have hh0 : ∀ w ∈ wsX60, w ∈ wsX6_market := by decide +kernel
  have hh1 := C0.2.2.2.2.1 (Cond.fieldLink RX6 9 "NotInTheCoinModel" "s" "[I") (by decide +kernel)
  have hh2 := C0.2.2.2.2.1 (Cond.constantLong RX6 213 (1000000001)) (by decide +kernel)
  have hfX6_market_b57 : ∀  (n : Nat) (a1 : Int32) (a3 : Int32) (a4 : Int32) (a5 : Int32) (a6 : Int64) (a8 : Int64) (a10 : Int32) (h : fX6_market_b57  n a1 a3 a4 a5 a6 a8 a10 σ = some r), nJ p l e rmX6_market s m args below meth c 0 0 (MQ below (nQl D B r σ s.heap.size) args s 0 0 (nA B s.heap.size)) D B 11 57 [(0, .ref (na B 63)), (1, .int a1), (3, .int a3), (4, .int a4), (5, .int a5), (6, .long a6), (8, .long a8), (10, .int a10)] [] σ := by
    intro  n
    induction n with
    | zero => intro a1 a3 a4 a5 a6 a8 a10 h; cases h
    | succ n ih =>
        intro a1 a3 a4 a5 a6 a8 a10 h
        rw [fX6_market_b57] at h
        refine nx_iload C0 7 dX6_market_57 rfl ?_
        refine nx_aload_n C0 0 dX6_market_59 rfl ?_
        refine nx_gX6_s C0 hh0 hh1 dX6_market_60 ?_
        refine nx_iconst (v := 1) C0 dX6_market_63 (by decide) ?_
        obtain ⟨g1, h⟩ := nguard h
        refine nx_iald C0 nI_64 g1 dX6_market_64 ?_
        refine nx_icmp_ge (tgt := 114) C0 dX6_market_65 (by decide) (fun q => ?_) (fun q => ?_)
        · have h := nift q h
          refine nx_lload C0 6 dX6_market_114 rfl ?_
          refine nx_lload C0 5 dX6_market_116 rfl ?_
          refine nx_lsub C0 dX6_market_118 ?_
          refine nx_lload C0 6 dX6_market_119 rfl ?_
          refine nx_iload C0 3 dX6_market_121 rfl ?_
          obtain ⟨r3, c2, h⟩ := nbind h
          refine nx_cSl (n := 3) (As := [.long (a8 - a6), .long a8, .int a4]) (st := []) C0 (mX6_partOf l D B hB (a8 - a6) a8 a4 σ c2) gX6_market_X6_partOf rfl rfl rfl ndX6_partOf ⟨Nat.le_of_ble_eq_true rfl, Nat.le_of_ble_eq_true rfl⟩ rfl (Nat.le_of_ble_eq_true rfl) rfl dX6_market_123 ?_
          exact nr_l C0 hr dX6_market_126 h
        · have h := niff q h
          refine nx_iload C0 7 dX6_market_68 rfl ?_
          refine nx_iload_n C0 1 dX6_market_70 rfl ?_
          refine nx_icmp_eq (tgt := 108) C0 dX6_market_71 (by decide) (fun q => ?_) (fun q => ?_)
          · have h := nift q h
            obtain ⟨v4, ev4, h⟩ := nlet h
            refine nx_iinc (v := v4) (lv' := [(10, .int v4), (0, .ref (na B 63)), (1, .int a1), (3, .int a3), (4, .int a4), (5, .int a5), (6, .long a6), (8, .long a8)]) C0 7 dX6_market_108 rfl ev4 (by decide) rfl ?_
            refine nx_goto (tgt := 57) C0 dX6_market_111 (by decide) ?_
            refine nx_lv (lv' := [(0, .ref (na B 63)), (1, .int a1), (3, .int a3), (4, .int a4), (5, .int a5), (6, .long a6), (8, .long a8), (10, .int v4)]) [1, 2, 3, 4, 5, 6, 7, 0] rfl ?_
            exact ih a1 a3 a4 a5 a6 a8 v4 h
          · have h := niff q h
            refine nx_aload_n C0 0 dX6_market_74 rfl ?_
            refine nx_gX6_s C0 hh0 hh1 dX6_market_75 ?_
            refine nx_iload C0 7 dX6_market_78 rfl ?_
            obtain ⟨r6, c5, h⟩ := nbind h
            refine nx_cSi (n := 2) (As := [.ref (na B 64), .int a10]) (st := []) C0 (mX6_ownedBy l D B hB nR64 a10 σ c5) gX6_market_X6_ownedBy rfl rfl rfl ndX6_ownedBy ⟨Nat.le_of_ble_eq_true rfl, Nat.le_of_ble_eq_true rfl⟩ rfl (Nat.le_of_ble_eq_true rfl) rfl dX6_market_80 ?_
            refine nx_iload C0 4 dX6_market_83 rfl ?_
            refine nx_iand C0 dX6_market_85 ?_
            refine nx_if_ne (tgt := 92) C0 dX6_market_86 (by decide) (fun q => ?_) (fun q => ?_)
            · have h := niff q h
              refine nx_lload C0 5 dX6_market_92 rfl ?_
              refine nx_iload_n C0 2 dX6_market_94 rfl ?_
              refine nx_iconst (v := 1) C0 dX6_market_95 (by decide) ?_
              refine nx_isub C0 dX6_market_96 ?_
              refine nx_i2l C0 dX6_market_97 ?_
              refine nx_lmul C0 dX6_market_98 ?_
              obtain ⟨v7, ev7, h⟩ := nlet h
              refine nx_lstore (i := 6) (y := v7) (lv' := [(6, .long v7), (0, .ref (na B 63)), (1, .int a1), (3, .int a3), (4, .int a4), (5, .int a5), (8, .long a8), (10, .int a10)]) C0 dX6_market_99 (by decide) ev7 rfl ?_
              refine nx_lload C0 6 dX6_market_101 rfl ?_
              refine nx_iload_n C0 3 dX6_market_103 rfl ?_
              refine nx_i2l C0 dX6_market_104 ?_
              refine nx_lmul C0 dX6_market_105 ?_
              obtain ⟨v8, ev8, h⟩ := nlet h
              refine nx_lstore (i := 8) (y := v8) (lv' := [(8, .long v8), (6, .long v7), (0, .ref (na B 63)), (1, .int a1), (3, .int a3), (4, .int a4), (5, .int a5), (10, .int a10)]) C0 dX6_market_106 (by decide) ev8 rfl ?_
              obtain ⟨v9, ev9, h⟩ := nlet h
              refine nx_iinc (v := v9) (lv' := [(10, .int v9), (8, .long v8), (6, .long v7), (0, .ref (na B 63)), (1, .int a1), (3, .int a3), (4, .int a4), (5, .int a5)]) C0 7 dX6_market_108 rfl ev9 (by decide) rfl ?_
              refine nx_goto (tgt := 57) C0 dX6_market_111 (by decide) ?_
              refine nx_lv (lv' := [(0, .ref (na B 63)), (1, .int a1), (3, .int a3), (4, .int a4), (5, .int a5), (6, .long v7), (8, .long v8), (10, .int v9)]) [3, 4, 5, 6, 7, 2, 1, 0] rfl ?_
              exact ih a1 a3 a4 a5 v7 v8 v9 h
            · have h := nift q h
              refine nx_goto (tgt := 108) C0 dX6_market_89 (by decide) ?_
              obtain ⟨v10, ev10, h⟩ := nlet h
              refine nx_iinc (v := v10) (lv' := [(10, .int v10), (0, .ref (na B 63)), (1, .int a1), (3, .int a3), (4, .int a4), (5, .int a5), (6, .long a6), (8, .long a8)]) C0 7 dX6_market_108 rfl ev10 (by decide) rfl ?_
              refine nx_goto (tgt := 57) C0 dX6_market_111 (by decide) ?_
              refine nx_lv (lv' := [(0, .ref (na B 63)), (1, .int a1), (3, .int a3), (4, .int a4), (5, .int a5), (6, .long a6), (8, .long a8), (10, .int v10)]) [1, 2, 3, 4, 5, 6, 7, 0] rfl ?_
              exact ih a1 a3 a4 a5 a6 a8 v10 h
  refine nx_lv (lv' := [(0, .ref (na B 63)), (1, .int x1), (2, .int x2), (3, .int x3), (4, .int x4)]) [0, 1, 2, 3, 4] rfl ?_
  rw [fX6_market] at h
  refine nx_aload_n C0 0 dX6_market_0 rfl ?_
  refine nx_iload_n C0 1 dX6_market_1 rfl ?_
  obtain ⟨r12, c11, h⟩ := nbind h
  refine nx_cVi (ci := 6) (n := 1) (As := [.int x1]) (st := []) C0 (mX6_isPerson l D B hB x1 σ c11) gX6_market_X6_isPerson rfl rfl rfl ndX6_isPerson ⟨Nat.le_of_ble_eq_true rfl, Nat.le_of_ble_eq_true rfl⟩ (by decide) rfl rfl rfl rfl (Nat.le_of_ble_eq_true rfl) rfl dX6_market_2 ?_
  refine nx_if_eq (tgt := 36) C0 dX6_market_5 (by decide) (fun q => ?_) (fun q => ?_)
  · have h := nift q h
    refine nx_ldc2 (v := 1000000001) C0 dX6_market_36 hh2 ?_
    exact nr_l C0 hr dX6_market_39 h
  · have h := niff q h
    refine nx_aload_n C0 0 dX6_market_8 rfl ?_
    refine nx_iload_n C0 2 dX6_market_9 rfl ?_
    obtain ⟨r14, c13, h⟩ := nbind h
    refine nx_cVi (ci := 6) (n := 1) (As := [.int x2]) (st := []) C0 (mX6_isGood l D B hB x2 σ c13) gX6_market_X6_isGood rfl rfl rfl ndX6_isGood ⟨Nat.le_of_ble_eq_true rfl, Nat.le_of_ble_eq_true rfl⟩ (by decide) rfl rfl rfl rfl (Nat.le_of_ble_eq_true rfl) rfl dX6_market_10 ?_
    refine nx_if_eq (tgt := 36) C0 dX6_market_13 (by decide) (fun q => ?_) (fun q => ?_)
    · have h := nift q h
      refine nx_ldc2 (v := 1000000001) C0 dX6_market_36 hh2 ?_
      exact nr_l C0 hr dX6_market_39 h
    · have h := niff q h
      refine nx_iload_n C0 3 dX6_market_16 rfl ?_
      refine nx_iconst (v := 2) C0 dX6_market_17 (by decide) ?_
      refine nx_bipush (v := 20) C0 dX6_market_18 (by decide) ?_
      obtain ⟨r16, c15, h⟩ := nbind h
      refine nx_cSi (n := 3) (As := [.int x3, .int (2 : Int32), .int (20 : Int32)]) (st := []) C0 (mX6_isIn l D B hB x3 (2 : Int32) (20 : Int32) σ c15) gX6_market_X6_isIn rfl rfl rfl ndX6_isIn ⟨Nat.le_of_ble_eq_true rfl, Nat.le_of_ble_eq_true rfl⟩ rfl (Nat.le_of_ble_eq_true rfl) rfl dX6_market_20 ?_
      refine nx_if_eq (tgt := 36) C0 dX6_market_23 (by decide) (fun q => ?_) (fun q => ?_)
      · have h := nift q h
        refine nx_ldc2 (v := 1000000001) C0 dX6_market_36 hh2 ?_
        exact nr_l C0 hr dX6_market_39 h
      · have h := niff q h
        refine nx_iload C0 4 dX6_market_26 rfl ?_
        refine nx_iconst (v := 0) C0 dX6_market_28 (by decide) ?_
        refine nx_iconst (v := 1) C0 dX6_market_29 (by decide) ?_
        obtain ⟨r18, c17, h⟩ := nbind h
        refine nx_cSi (n := 3) (As := [.int x4, .int (0 : Int32), .int (1 : Int32)]) (st := []) C0 (mX6_isIn l D B hB x4 (0 : Int32) (1 : Int32) σ c17) gX6_market_X6_isIn rfl rfl rfl ndX6_isIn ⟨Nat.le_of_ble_eq_true rfl, Nat.le_of_ble_eq_true rfl⟩ rfl (Nat.le_of_ble_eq_true rfl) rfl dX6_market_30 ?_
        refine nx_if_ne (tgt := 40) C0 dX6_market_33 (by decide) (fun q => ?_) (fun q => ?_)
        · have h := niff q h
          refine nx_aload_n C0 0 dX6_market_40 rfl ?_
          refine nx_iload_n C0 1 dX6_market_41 rfl ?_
          refine nx_iload_n C0 2 dX6_market_42 rfl ?_
          obtain ⟨r20, c19, h⟩ := nbind h
          refine nx_cVi (ci := 6) (n := 2) (As := [.int x1, .int x2]) (st := []) C0 (mX6_takesOf l D B hB x1 x2 σ c19) gX6_market_X6_takesOf rfl rfl rfl ndX6_takesOf ⟨Nat.le_of_ble_eq_true rfl, Nat.le_of_ble_eq_true rfl⟩ (by decide) rfl rfl rfl rfl (Nat.le_of_ble_eq_true rfl) rfl dX6_market_43 ?_
          refine nx_istore (i := 5) (y := r20) (lv' := [(5, .int r20), (0, .ref (na B 63)), (1, .int x1), (2, .int x2), (3, .int x3), (4, .int x4)]) C0 dX6_market_46 (by decide) rfl rfl ?_
          refine nx_lconst (v := 1) C0 dX6_market_48 (by decide) ?_
          refine nx_lstore (i := 6) (y := (1 : Int64)) (lv' := [(6, .long (1 : Int64)), (5, .int r20), (0, .ref (na B 63)), (1, .int x1), (2, .int x2), (3, .int x3), (4, .int x4)]) C0 dX6_market_49 (by decide) rfl rfl ?_
          refine nx_lconst (v := 1) C0 dX6_market_51 (by decide) ?_
          refine nx_lstore (i := 8) (y := (1 : Int64)) (lv' := [(8, .long (1 : Int64)), (6, .long (1 : Int64)), (5, .int r20), (0, .ref (na B 63)), (1, .int x1), (2, .int x2), (3, .int x3), (4, .int x4)]) C0 dX6_market_52 (by decide) rfl rfl ?_
          refine nx_iconst (v := 0) C0 dX6_market_54 (by decide) ?_
          refine nx_istore (i := 10) (y := (0 : Int32)) (lv' := [(10, .int (0 : Int32)), (8, .long (1 : Int64)), (6, .long (1 : Int64)), (5, .int r20), (0, .ref (na B 63)), (1, .int x1), (2, .int x2), (3, .int x3), (4, .int x4)]) C0 dX6_market_55 (by decide) rfl rfl ?_
          refine nx_lv (lv' := [(0, .ref (na B 63)), (1, .int x1), (3, .int x3), (4, .int x4), (5, .int r20), (6, .long (1 : Int64)), (8, .long (1 : Int64)), (10, .int (0 : Int32))]) [4, 5, 7, 8, 3, 2, 1, 0] rfl ?_
          exact hfX6_market_b57 4096 x1 x3 x4 r20 (1 : Int64) (1 : Int64) (0 : Int32) h
        · have h := nift q h
          refine nx_ldc2 (v := 1000000001) C0 dX6_market_36 hh2 ?_
          exact nr_l C0 hr dX6_market_39 h
