def rmX5_classify (n : Nat) : Room := { frames := n + 2, cells := 0, slots := 0, locals := n * 24 + 44 }
theorem ndX5_classify : yX5_classify.cls ≠ "java/lang/invoke/MethodHandle" ∧ yX5_classify.cls ≠ "java/lang/invoke/VarHandle" ∧ (parseMethodDescriptor yX5_classify.desc).map (fun d => d.parameters.length) = some 4 := by decide +kernel
set_option maxRecDepth 100000 in
set_option maxHeartbeats 4000000 in
theorem mX5_classify (l : Launch) (D : va_G) (B : nBT) (hB : nInj B) : ∀ (d : Nat) (x1 : Int32) (x2 : Int32) (x3 : Int32) (σ : nS) {r : Int32} {σ1 : nS} (h : fX5_classify d x1 x2 x3 σ = some (r, σ1)), nMi l D B yX5_classify wsX5_classify (rmX5_classify d) [.ref (na B 59), .int x1, .int x2, .int x3] σ r σ1 := by
  intro d
  induction d with
  | zero => intro x1 x2 x3 σ r σ1 h; cases h
  | succ d hrec0 =>
  intro x1 x2 x3 σ r σ1 h
  have h : fX5_classify_e (fX5_classify d) x1 x2 x3 σ = some (r, σ1) := h
  have hrec : ∀ (x1 : Int32) (x2 : Int32) (x3 : Int32) (σ : nS) {r : Int32} {σ1 : nS} (h : fX5_classify d x1 x2 x3 σ = some (r, σ1)), nMi l D B yX5_classify wsX5_classify (rmX5_classify d) [.ref (na B 59), .int x1, .int x2, .int x3] σ r σ1 := fun x1 x2 x3 σ {r} {σ1} h => hrec0 x1 x2 x3 σ h
  generalize fX5_classify d = rec at h hrec
  clear hrec0
  refine nmet (cc := cX5_classify) (maxL := 5) (ret := (some .boolean)) (own := RX5) (av := [.ref (na B 59), .int x1, .int x2, .int x3]) (nQi D B r σ1) hB (by decide) rfl rfl (Nat.le_of_ble_eq_true rfl) (fun p e s m args below meth c C0 hr => ?_)
  have hh0 : ∀ w ∈ wsX20, w ∈ wsX5_classify := by decide +kernel
  have hh1 := C0.2.2.2.2.1 (Cond.fieldLink RX5 223 "NotInTheCoin$ShortList" "classOf" "[I") (by decide +kernel)
  have hh2 := C0.2.2.2.2.1 (Cond.fieldLink RX5 376 "NotInTheCoin$ShortList" "rootOf" "[I") (by decide +kernel)
  have hfX5_classify_b95 : ∀ (s48 : Int32 → Int32 → Int32 → Int32 → nS → Option (Int32 × nS)) (hs48 : ∀ (a1 : Int32) (a2 : Int32) (a3 : Int32) (a4 : Int32) (σ : nS), s48 a1 a2 a3 a4 σ = some (r, σ1) → nJ p l e (rmX5_classify (d + 1)) s m args below meth c 0 0 (MQ below (nQi D B r σ1 s.heap.size) args s 0 0 (nA B s.heap.size)) D B 5 48 [(0, .ref (na B 59)), (1, .int a1), (2, .int a2), (3, .int a3), (4, .int a4)] [] σ) (a1 : Int32) (a2 : Int32) (a3 : Int32) (a4 : Int32) (z0 : Int32) (z1 : Int32) (σ : nS) (h : fX5_classify_b95 rec s48 a1 a2 a3 a4 z0 z1 σ = some (r, σ1)), nJ p l e (rmX5_classify (d + 1)) s m args below meth c 0 0 (MQ below (nQi D B r σ1 s.heap.size) args s 0 0 (nA B s.heap.size)) D B 5 95 [(0, .ref (na B 59)), (1, .int a1), (2, .int a2), (3, .int a3), (4, .int a4)] [.int z0, .int z1, .ref (na B 59)] σ := by
    intro s48 hs48 a1 a2 a3 a4 z0 z1 σ h
    rw [fX5_classify_b95] at h
    refine nx_iload_n C0 3 dX5_classify_95 rfl ?_
    obtain ⟨r2, t3, c1, h⟩ := nbind2 h
    refine nx_cSi (n := 4) (As := [.ref (na B 59), .int z1, .int z0, .int a3]) (st := []) C0 (hrec z1 z0 a3 σ c1) gX5_classify_X5_classify rfl rfl rfl ndX5_classify ⟨by simp only [rmX5_classify]; omega, by simp only [rmX5_classify]; omega⟩ rfl (Nat.le_of_ble_eq_true rfl) rfl dX5_classify_96 ?_
    refine nx_if_eq (tgt := 104) C0 dX5_classify_99 (by decide) (fun q => ?_) (fun q => ?_)
    · have h := nift q h
      obtain ⟨v4, ev4, h⟩ := nlet h
      refine nx_iinc (v := v4) (lv' := [(4, .int v4), (0, .ref (na B 59)), (1, .int a1), (2, .int a2), (3, .int a3)]) C0 4 dX5_classify_104 rfl ev4 (by decide) rfl ?_
      refine nx_goto (tgt := 48) C0 dX5_classify_107 (by decide) ?_
      refine nx_lv (lv' := [(0, .ref (na B 59)), (1, .int a1), (2, .int a2), (3, .int a3), (4, .int v4)]) [1, 2, 3, 4, 0] rfl ?_
      exact hs48 a1 a2 a3 v4 t3 h
    · have h := niff q h
      refine nx_iconst (v := 1) C0 dX5_classify_102 (by decide) ?_
      exact nr_z2 C0 hr (Or.inr rfl) dX5_classify_103 h
  have hfX5_classify_b48 : ∀  (n : Nat) (a1 : Int32) (a2 : Int32) (a3 : Int32) (a4 : Int32) (σ : nS) (h : fX5_classify_b48 rec n a1 a2 a3 a4 σ = some (r, σ1)), nJ p l e (rmX5_classify (d + 1)) s m args below meth c 0 0 (MQ below (nQi D B r σ1 s.heap.size) args s 0 0 (nA B s.heap.size)) D B 5 48 [(0, .ref (na B 59)), (1, .int a1), (2, .int a2), (3, .int a3), (4, .int a4)] [] σ := by
    intro  n
    induction n with
    | zero => intro a1 a2 a3 a4 σ h; cases h
    | succ n ih =>
        intro a1 a2 a3 a4 σ h
        rw [fX5_classify_b48] at h
        refine nx_iload C0 4 dX5_classify_48 rfl ?_
        refine nx_iload_n C0 2 dX5_classify_50 rfl ?_
        refine nx_icmp_gt (tgt := 110) C0 dX5_classify_51 (by decide) (fun q => ?_) (fun q => ?_)
        · have h := nift q h
          refine nx_iconst (v := 0) C0 dX5_classify_110 (by decide) ?_
          exact nr_z2 C0 hr (Or.inl rfl) dX5_classify_111 h
        · have h := niff q h
          refine nx_iload C0 4 dX5_classify_54 rfl ?_
          refine nx_iload_n C0 3 dX5_classify_56 rfl ?_
          refine nx_icmp_ge (tgt := 110) C0 dX5_classify_57 (by decide) (fun q => ?_) (fun q => ?_)
          · have h := nift q h
            refine nx_iconst (v := 0) C0 dX5_classify_110 (by decide) ?_
            exact nr_z2 C0 hr (Or.inl rfl) dX5_classify_111 h
          · have h := niff q h
            refine nx_aload_n C0 0 dX5_classify_60 rfl ?_
            refine nx_iload_n C0 1 dX5_classify_61 rfl ?_
            refine nx_iload C0 4 dX5_classify_62 rfl ?_
            obtain ⟨r6, c5, h⟩ := nbind h
            refine nx_cVi (ci := 2) (n := 2) (As := [.int a1, .int a4]) (st := []) C0 (mX2_isBarred l D B hB a1 a4 σ c5) gX5_classify_X2_isBarred rfl rfl rfl ndX2_isBarred ⟨by show _ ≤ (rmX5_classify _).frames; simp only [rmX5_classify, rmX2_isBarred]; omega, by show _ ≤ (rmX5_classify _).locals; simp only [rmX5_classify, rmX2_isBarred]; omega⟩ (by decide) rfl rfl rfl rfl (Nat.le_of_ble_eq_true rfl) rfl dX5_classify_64 ?_
            refine nx_if_ne (tgt := 104) C0 dX5_classify_67 (by decide) (fun q => ?_) (fun q => ?_)
            · have h := niff q h
              obtain ⟨v7, ev7, h⟩ := nlet h
              refine nx_iinc (v := v7) (lv' := [(4, .int v7), (0, .ref (na B 59)), (1, .int a1), (2, .int a2), (3, .int a3)]) C0 4 dX5_classify_104 rfl ev7 (by decide) rfl ?_
              refine nx_goto (tgt := 48) C0 dX5_classify_107 (by decide) ?_
              refine nx_lv (lv' := [(0, .ref (na B 59)), (1, .int a1), (2, .int a2), (3, .int a3), (4, .int v7)]) [1, 2, 3, 4, 0] rfl ?_
              exact ih a1 a2 a3 v7 σ h
            · have h := nift q h
              refine nx_aload_n C0 0 dX5_classify_70 rfl ?_
              refine nx_gX2_classOf C0 hh0 hh1 dX5_classify_71 ?_
              refine nx_iload_n C0 1 dX5_classify_74 rfl ?_
              refine nx_iload C0 4 dX5_classify_75 rfl ?_
              obtain ⟨g8, h⟩ := nguard h
              obtain ⟨t9, et9, h⟩ := nlet h
              refine nx_iast C0 nI_62 g8 dX5_classify_77 et9 ?_
              refine nx_aload_n C0 0 dX5_classify_78 rfl ?_
              refine nx_iload_n C0 1 dX5_classify_79 rfl ?_
              refine nx_iconst (v := 1) C0 dX5_classify_80 (by decide) ?_
              refine nx_iadd C0 dX5_classify_81 ?_
              refine nx_iload C0 4 dX5_classify_82 rfl ?_
              refine nx_iload_n C0 2 dX5_classify_84 rfl ?_
              refine nx_icmp_ne (tgt := 94) C0 dX5_classify_85 (by decide) (fun q => ?_) (fun q => ?_)
              · have h := niff q h
                refine nx_iload_n C0 2 dX5_classify_94 rfl ?_
                exact hfX5_classify_b95 (fX5_classify_b48 rec n) ih a1 a2 a3 a4 a2 (a1 + (1 : Int32)) t9 h
              · have h := nift q h
                refine nx_iload_n C0 2 dX5_classify_88 rfl ?_
                refine nx_iconst (v := 1) C0 dX5_classify_89 (by decide) ?_
                refine nx_iadd C0 dX5_classify_90 ?_
                refine nx_goto (tgt := 95) C0 dX5_classify_91 (by decide) ?_
                exact hfX5_classify_b95 (fX5_classify_b48 rec n) ih a1 a2 a3 a4 (a2 + (1 : Int32)) (a1 + (1 : Int32)) t9 h
  refine nx_lv (lv' := [(0, .ref (na B 59)), (1, .int x1), (2, .int x2), (3, .int x3)]) [0, 1, 2, 3] rfl ?_
  rw [fX5_classify_e] at h
  refine nx_iload_n C0 1 dX5_classify_0 rfl ?_
  refine nx_bipush (v := 8) C0 dX5_classify_1 (by decide) ?_
  refine nx_icmp_lt (tgt := 8) C0 dX5_classify_3 (by decide) (fun q => ?_) (fun q => ?_)
  · have h := nift q h
    refine nx_aload_n C0 0 dX5_classify_8 rfl ?_
    refine nx_gX2_rootOf C0 hh0 hh2 dX5_classify_9 ?_
    refine nx_iload_n C0 1 dX5_classify_12 rfl ?_
    obtain ⟨g10, h⟩ := nguard h
    refine nx_iald C0 nI_60 g10 dX5_classify_13 ?_
    refine nx_iload_n C0 1 dX5_classify_14 rfl ?_
    refine nx_icmp_ge (tgt := 45) C0 dX5_classify_15 (by decide) (fun q => ?_) (fun q => ?_)
    · have h := nift q h
      refine nx_iconst (v := 0) C0 dX5_classify_45 (by decide) ?_
      refine nx_istore (i := 4) (y := (0 : Int32)) (lv' := [(4, .int (0 : Int32)), (0, .ref (na B 59)), (1, .int x1), (2, .int x2), (3, .int x3)]) C0 dX5_classify_46 (by decide) rfl rfl ?_
      refine nx_lv (lv' := [(0, .ref (na B 59)), (1, .int x1), (2, .int x2), (3, .int x3), (4, .int (0 : Int32))]) [1, 2, 3, 4, 0] rfl ?_
      exact hfX5_classify_b48 4096 x1 x2 x3 (0 : Int32) σ h
    · have h := niff q h
      refine nx_aload_n C0 0 dX5_classify_18 rfl ?_
      refine nx_gX2_classOf C0 hh0 hh1 dX5_classify_19 ?_
      refine nx_iload_n C0 1 dX5_classify_22 rfl ?_
      refine nx_aload_n C0 0 dX5_classify_23 rfl ?_
      refine nx_gX2_classOf C0 hh0 hh1 dX5_classify_24 ?_
      refine nx_aload_n C0 0 dX5_classify_27 rfl ?_
      refine nx_gX2_rootOf C0 hh0 hh2 dX5_classify_28 ?_
      refine nx_iload_n C0 1 dX5_classify_31 rfl ?_
      obtain ⟨g11, h⟩ := nguard h
      refine nx_iald C0 nI_60 g11 dX5_classify_32 ?_
      obtain ⟨g12, h⟩ := nguard h
      refine nx_iald C0 nI_62 g12 dX5_classify_33 ?_
      obtain ⟨g13, h⟩ := nguard h
      obtain ⟨t14, et14, h⟩ := nlet h
      refine nx_iast C0 nI_62 g13 dX5_classify_34 et14 ?_
      refine nx_aload_n C0 0 dX5_classify_35 rfl ?_
      refine nx_iload_n C0 1 dX5_classify_36 rfl ?_
      refine nx_iconst (v := 1) C0 dX5_classify_37 (by decide) ?_
      refine nx_iadd C0 dX5_classify_38 ?_
      refine nx_iload_n C0 2 dX5_classify_39 rfl ?_
      refine nx_iload_n C0 3 dX5_classify_40 rfl ?_
      obtain ⟨r16, t17, c15, h⟩ := nbind2 h
      refine nx_cSi (n := 4) (As := [.ref (na B 59), .int (x1 + (1 : Int32)), .int x2, .int x3]) (st := []) C0 (hrec (x1 + (1 : Int32)) x2 x3 t14 c15) gX5_classify_X5_classify rfl rfl rfl ndX5_classify ⟨by simp only [rmX5_classify]; omega, by simp only [rmX5_classify]; omega⟩ rfl (Nat.le_of_ble_eq_true rfl) rfl dX5_classify_41 ?_
      obtain ⟨g18, h⟩ := nguard h
      exact nr_z2 C0 hr g18 dX5_classify_44 h
  · have h := niff q h
    refine nx_iconst (v := 1) C0 dX5_classify_6 (by decide) ?_
    exact nr_z2 C0 hr (Or.inr rfl) dX5_classify_7 h
def rmX2_fewest : Room := { frames := 23, cells := 0, slots := 0, locals := 548 }
theorem ndX2_fewest : yX2_fewest.cls = RX2 ∧ yX2_fewest.cls ≠ "java/lang/invoke/MethodHandle" ∧ yX2_fewest.cls ≠ "java/lang/invoke/VarHandle" ∧ (parseMethodDescriptor yX2_fewest.desc).map (fun d => d.parameters.length) = some 1 := by decide +kernel
set_option maxRecDepth 100000 in
set_option maxHeartbeats 4000000 in
theorem mX2_fewest (l : Launch) (D : va_G) (B : nBT) (hB : nInj B) {k1 : Nat} (hk1 : nSh k1) (σ : nS) {r : Int32} {σ1 : nS} (h : fX2_fewest k1 σ = some (r, σ1)) : nMi l D B yX2_fewest wsX2_fewest rmX2_fewest [.ref (na B 59), .ref (na B k1)] σ r σ1 := by
  refine nmet (cc := cX2_fewest) (maxL := 3) (ret := (some .int)) (own := RX2) (av := [.ref (na B 59), .ref (na B k1)]) (nQi D B r σ1) hB (by decide) rfl rfl (Nat.le_of_ble_eq_true rfl) (fun p e s m args below meth c C0 hr => ?_)
  have hh0 := C0.2.2.2.2.1 (Cond.static yX5_classify) (by decide +kernel)
  have hh1 := C0.2.2.2.2.1 (Cond.initialized RX5) (by decide +kernel)
  have hfX2_fewest_b13 : ∀  (n : Nat) (a2 : Int32) (σ : nS) (h : fX2_fewest_b13  n a2 σ = some (r, σ1)), nJ p l e rmX2_fewest s m args below meth c 0 0 (MQ below (nQi D B r σ1 s.heap.size) args s 0 0 (nA B s.heap.size)) D B 3 13 [(0, .ref (na B 59)), (2, .int a2)] [] σ := by
    intro  n
    induction n with
    | zero => intro a2 σ h; cases h
    | succ n ih =>
        intro a2 σ h
        rw [fX2_fewest_b13] at h
        refine nx_iload_n C0 1 dX2_fewest_13 rfl ?_
        refine nx_bipush (v := 8) C0 dX2_fewest_14 (by decide) ?_
        refine nx_icmp_gt (tgt := 37) C0 dX2_fewest_16 (by decide) (fun q => ?_) (fun q => ?_)
        · have h := nift q h
          refine nx_bipush (v := -4) C0 dX2_fewest_37 (by decide) ?_
          exact nr_i2 C0 hr dX2_fewest_39 h
        · have h := niff q h
          refine nx_aload_n C0 0 dX2_fewest_19 rfl ?_
          refine nx_iconst (v := 0) C0 dX2_fewest_20 (by decide) ?_
          refine nx_iconst (v := 0) C0 dX2_fewest_21 (by decide) ?_
          refine nx_iload_n C0 1 dX2_fewest_22 rfl ?_
          obtain ⟨r2, t3, c1, h⟩ := nbind2 h
          refine nx_cNi (n := 4) (As := [.ref (na B 59), .int (0 : Int32), .int (0 : Int32), .int a2]) (st := []) C0 (mX5_classify l D B hB 20 (0 : Int32) (0 : Int32) a2 σ c1) gX2_fewest_X5_classify_n25 (by decide +kernel) hh0 hh1 rfl rfl rfl ndX5_classify ⟨Nat.le_of_ble_eq_true rfl, Nat.le_of_ble_eq_true rfl⟩ rfl (Nat.le_of_ble_eq_true rfl) rfl dX2_fewest_23 ?_
          refine nx_if_eq (tgt := 31) C0 dX2_fewest_26 (by decide) (fun q => ?_) (fun q => ?_)
          · have h := nift q h
            obtain ⟨v4, ev4, h⟩ := nlet h
            refine nx_iinc (v := v4) (lv' := [(2, .int v4), (0, .ref (na B 59))]) C0 1 dX2_fewest_31 rfl ev4 (by decide) rfl ?_
            refine nx_goto (tgt := 13) C0 dX2_fewest_34 (by decide) ?_
            refine nx_lv (lv' := [(0, .ref (na B 59)), (2, .int v4)]) [1, 0] rfl ?_
            exact ih v4 t3 h
          · have h := niff q h
            refine nx_iload_n C0 1 dX2_fewest_29 rfl ?_
            exact nr_i2 C0 hr dX2_fewest_30 h
  refine nx_lv (lv' := [(0, .ref (na B 59)), (1, .ref (na B k1))]) [0, 1] rfl ?_
  rw [fX2_fewest] at h
  refine nx_aload_n C0 0 dX2_fewest_0 rfl ?_
  refine nx_aload_n C0 1 dX2_fewest_1 rfl ?_
  obtain ⟨r6, t7, c5, h⟩ := nbind2 h
  refine nx_cVi (ci := 2) (n := 1) (As := [.ref (na B k1)]) (st := []) C0 (mX2_read l D B hB hk1 σ c5) gX2_fewest_X2_read rfl rfl rfl ndX2_read ⟨Nat.le_of_ble_eq_true rfl, Nat.le_of_ble_eq_true rfl⟩ (by decide) rfl rfl rfl rfl (Nat.le_of_ble_eq_true rfl) rfl dX2_fewest_2 ?_
  refine nx_if_ne (tgt := 11) C0 dX2_fewest_5 (by decide) (fun q => ?_) (fun q => ?_)
  · have h := niff q h
    refine nx_iconst (v := 1) C0 dX2_fewest_11 (by decide) ?_
    refine nx_istore_n (i := 2) (y := (1 : Int32)) (lv' := [(2, .int (1 : Int32)), (0, .ref (na B 59)), (1, .ref (na B k1))]) C0 dX2_fewest_12 rfl (by decide) rfl rfl ?_
    refine nx_lv (lv' := [(0, .ref (na B 59)), (2, .int (1 : Int32))]) [1, 0] rfl ?_
    exact hfX2_fewest_b13 4096 (1 : Int32) t7 h
  · have h := nift q h
    refine nx_bipush (v := -4) C0 dX2_fewest_8 (by decide) ?_
    exact nr_i2 C0 hr dX2_fewest_10 h
def rmX3_look : Room := { frames := 2, cells := 0, slots := 0, locals := 55 }
theorem ndX3_look : yX3_look.cls = RX3 ∧ yX3_look.cls ≠ "java/lang/invoke/MethodHandle" ∧ yX3_look.cls ≠ "java/lang/invoke/VarHandle" ∧ (parseMethodDescriptor yX3_look.desc).map (fun d => d.parameters.length) = some 2 := by decide +kernel
set_option maxRecDepth 100000 in
set_option maxHeartbeats 4000000 in
theorem mX3_look (l : Launch) (D : va_G) (B : nBT) (hB : nInj B) {k1 : Nat} (hk1 : nT k1) (x2 : Int32) (σ : nS)  {σ1 : nS} (h : fX3_look k1 x2 σ = some ((), σ1)) : nMv l D B yX3_look wsX3_look rmX3_look [.ref (na B 45), .ref (na B k1), .int x2] σ σ1 := by
  refine nmet (cc := cX3_look) (maxL := 4) (ret := none) (own := RX3) (av := [.ref (na B 45), .ref (na B k1), .int x2]) (nQv D B σ1) hB (by decide) rfl rfl (Nat.le_of_ble_eq_true rfl) (fun p e s m args below meth c C0 hr => ?_)
  have hh0 : ∀ w ∈ wsX30, w ∈ wsX3_look := by decide +kernel
  have hh1 := C0.2.2.2.2.1 (Cond.fieldLink RX3 24 "NotInTheCoin$Steps" "goods" "I") (by decide +kernel)
  have hh2 := C0.2.2.2.2.1 (Cond.fieldLink RX3 9 "NotInTheCoin$Steps" "next" "[I") (by decide +kernel)
  have hh3 : ∀ w ∈ wsX40, w ∈ wsX3_look := by decide +kernel
  have hh4 := C0.2.2.2.2.1 (Cond.fieldLink RX3 18 "NotInTheCoin$Town" "goods" "I") (by decide +kernel)
  have hfX3_look_b10 : ∀  (n : Nat) (k_1 : Nat) (hk_1 : nT k_1) (a2 : Int32) (a3 : Int32) (σ : nS) (h : fX3_look_b10  n k_1 a2 a3 σ = some ((), σ1)), nJ p l e rmX3_look s m args below meth c 0 0 (MQ below (nQv D B σ1 s.heap.size) args s 0 0 (nA B s.heap.size)) D B 4 10 [(0, .ref (na B 45)), (1, .ref (na B k_1)), (2, .int a2), (3, .int a3)] [] σ := by
    intro  n
    induction n with
    | zero => intro k_1 hk_1 a2 a3 σ h; cases h
    | succ n ih =>
        intro k_1 hk_1 a2 a3 σ h
        rw [fX3_look_b10] at h
        refine nx_iload_n C0 3 dX3_look_10 rfl ?_
        refine nx_aload_n C0 0 dX3_look_11 rfl ?_
        refine nx_gX3_goods C0 hh0 hh1 dX3_look_12 ?_
        refine nx_icmp_ge (tgt := 36) C0 dX3_look_15 (by decide) (fun q => ?_) (fun q => ?_)
        · have h := nift q h
          exact nr_v2 C0 hr dX3_look_36 h
        · have h := niff q h
          refine nx_aload_n C0 0 dX3_look_18 rfl ?_
          refine nx_gX3_next C0 hh0 hh2 dX3_look_19 ?_
          refine nx_iload_n C0 3 dX3_look_22 rfl ?_
          refine nx_aload_n C0 1 dX3_look_23 rfl ?_
          refine nx_iload_n C0 2 dX3_look_24 rfl ?_
          refine nx_iload_n C0 3 dX3_look_25 rfl ?_
          obtain ⟨r2, c1, h⟩ := nbind h
          refine nx_cVi (ci := 4) (n := 2) (As := [.int a2, .int a3]) (st := [.int a3, .ref (na B 46)]) C0 (mX4_takenFor l D B hB hk_1 a2 a3 σ c1) gX3_look_X4_takenFor rfl rfl rfl ndX4_takenFor ⟨Nat.le_of_ble_eq_true rfl, Nat.le_of_ble_eq_true rfl⟩ (by have := nT_lt hk_1; omega) (nT_e hk_1 _) rfl rfl rfl (Nat.le_of_ble_eq_true rfl) rfl dX3_look_26 ?_
          obtain ⟨g3, h⟩ := nguard h
          obtain ⟨t4, et4, h⟩ := nlet h
          refine nx_iast C0 nI_46 g3 dX3_look_29 et4 ?_
          obtain ⟨v5, ev5, h⟩ := nlet h
          refine nx_iinc (v := v5) (lv' := [(3, .int v5), (0, .ref (na B 45)), (1, .ref (na B k_1)), (2, .int a2)]) C0 3 dX3_look_30 rfl ev5 (by decide) rfl ?_
          refine nx_goto (tgt := 10) C0 dX3_look_33 (by decide) ?_
          refine nx_lv (lv' := [(0, .ref (na B 45)), (1, .ref (na B k_1)), (2, .int a2), (3, .int v5)]) [1, 2, 3, 0] rfl ?_
          exact ih k_1 hk_1 a2 v5 t4 h
  refine nx_lv (lv' := [(0, .ref (na B 45)), (1, .ref (na B k1)), (2, .int x2)]) [0, 1, 2] rfl ?_
  rw [fX3_look] at h
  refine nx_aload_n C0 0 dX3_look_0 rfl ?_
  refine nx_aload_n C0 1 dX3_look_1 rfl ?_
  refine nx_gX4_goods C0 hk1 hh3 hh4 dX3_look_2 ?_
  obtain ⟨t6, et6, h⟩ := nlet h
  refine nx_pX3_goods C0 hh0 hh1 dX3_look_5 et6 ?_
  refine nx_iconst (v := 0) C0 dX3_look_8 (by decide) ?_
  refine nx_istore_n (i := 3) (y := (0 : Int32)) (lv' := [(3, .int (0 : Int32)), (0, .ref (na B 45)), (1, .ref (na B k1)), (2, .int x2)]) C0 dX3_look_9 rfl (by decide) rfl rfl ?_
  refine nx_lv (lv' := [(0, .ref (na B 45)), (1, .ref (na B k1)), (2, .int x2), (3, .int (0 : Int32))]) [1, 2, 3, 0] rfl ?_
  exact hfX3_look_b10 4096 k1 hk1 x2 (0 : Int32) t6 h
def rmX3_nextWith : Room := { frames := 1, cells := 0, slots := 0, locals := 21 }
theorem ndX3_nextWith : yX3_nextWith.cls = RX3 ∧ yX3_nextWith.cls ≠ "java/lang/invoke/MethodHandle" ∧ yX3_nextWith.cls ≠ "java/lang/invoke/VarHandle" ∧ (parseMethodDescriptor yX3_nextWith.desc).map (fun d => d.parameters.length) = some 2 := by decide +kernel
set_option maxRecDepth 100000 in
set_option maxHeartbeats 4000000 in
theorem mX3_nextWith (l : Launch) (D : va_G) (B : nBT) (hB : nInj B) (x1 : Int32) (x2 : Int32) (σ : nS) {r : Int32}  (h : fX3_nextWith x1 x2 σ = some r) : nMi l D B yX3_nextWith wsX3_nextWith rmX3_nextWith [.ref (na B 45), .int x1, .int x2] σ r σ := by
  refine nmet (cc := cX3_nextWith) (maxL := 4) (ret := (some .int)) (own := RX3) (av := [.ref (na B 45), .int x1, .int x2]) (nQi D B r σ) hB (by decide) rfl rfl (Nat.le_of_ble_eq_true rfl) (fun p e s m args below meth c C0 hr => ?_)
  have hh0 : ∀ w ∈ wsX30, w ∈ wsX3_nextWith := by decide +kernel
  have hh1 := C0.2.2.2.2.1 (Cond.fieldLink RX3 24 "NotInTheCoin$Steps" "goods" "I") (by decide +kernel)
  have hh2 := C0.2.2.2.2.1 (Cond.fieldLink RX3 9 "NotInTheCoin$Steps" "next" "[I") (by decide +kernel)
  have hh3 := C0.2.2.2.2.1 (Cond.static yX5_has) (by decide +kernel)
  have hh4 := C0.2.2.2.2.1 (Cond.initialized RX5) (by decide +kernel)
  have hh5 := C0.2.2.2.2.1 (Cond.fieldLink RX3 15 "NotInTheCoin$Steps" "left" "[I") (by decide +kernel)
  have hfX3_nextWith_b2 : ∀  (n : Nat) (a1 : Int32) (a2 : Int32) (a3 : Int32) (h : fX3_nextWith_b2  n a1 a2 a3 σ = some r), nJ p l e rmX3_nextWith s m args below meth c 0 0 (MQ below (nQi D B r σ s.heap.size) args s 0 0 (nA B s.heap.size)) D B 4 2 [(0, .ref (na B 45)), (1, .int a1), (2, .int a2), (3, .int a3)] [] σ := by
    intro  n
    induction n with
    | zero => intro a1 a2 a3 h; cases h
    | succ n ih =>
        intro a1 a2 a3 h
        rw [fX3_nextWith_b2] at h
        refine nx_iload_n C0 3 dX3_nextWith_2 rfl ?_
        refine nx_aload_n C0 0 dX3_nextWith_3 rfl ?_
        refine nx_gX3_goods C0 hh0 hh1 dX3_nextWith_4 ?_
        refine nx_icmp_ge (tgt := 41) C0 dX3_nextWith_7 (by decide) (fun q => ?_) (fun q => ?_)
        · have h := nift q h
          refine nx_bipush (v := -4) C0 dX3_nextWith_41 (by decide) ?_
          exact nr_i C0 hr dX3_nextWith_43 h
        · have h := niff q h
          refine nx_aload_n C0 0 dX3_nextWith_10 rfl ?_
          refine nx_gX3_next C0 hh0 hh2 dX3_nextWith_11 ?_
          refine nx_iload_n C0 1 dX3_nextWith_14 rfl ?_
          obtain ⟨g1, h⟩ := nguard h
          refine nx_iald C0 nI_46 g1 dX3_nextWith_15 ?_
          refine nx_iload_n C0 3 dX3_nextWith_16 rfl ?_
          obtain ⟨r3, c2, h⟩ := nbind h
          refine nx_cNi (n := 2) (As := [.int (σ 46 (a1).toNatClampNeg), .int a3]) (st := []) C0 (mX5_has l D B hB (σ 46 (a1).toNatClampNeg) a3 σ c2) gX3_nextWith_X5_has_n32 (by decide +kernel) hh3 hh4 rfl rfl rfl ndX5_has ⟨Nat.le_of_ble_eq_true rfl, Nat.le_of_ble_eq_true rfl⟩ rfl (Nat.le_of_ble_eq_true rfl) rfl dX3_nextWith_17 ?_
          refine nx_if_eq (tgt := 35) C0 dX3_nextWith_20 (by decide) (fun q => ?_) (fun q => ?_)
          · have h := nift q h
            obtain ⟨v4, ev4, h⟩ := nlet h
            refine nx_iinc (v := v4) (lv' := [(3, .int v4), (0, .ref (na B 45)), (1, .int a1), (2, .int a2)]) C0 3 dX3_nextWith_35 rfl ev4 (by decide) rfl ?_
            refine nx_goto (tgt := 2) C0 dX3_nextWith_38 (by decide) ?_
            refine nx_lv (lv' := [(0, .ref (na B 45)), (1, .int a1), (2, .int a2), (3, .int v4)]) [1, 2, 3, 0] rfl ?_
            exact ih a1 a2 v4 h
          · have h := niff q h
            refine nx_aload_n C0 0 dX3_nextWith_23 rfl ?_
            refine nx_gX3_left C0 hh0 hh5 dX3_nextWith_24 ?_
            refine nx_iload_n C0 3 dX3_nextWith_27 rfl ?_
            obtain ⟨g5, h⟩ := nguard h
            refine nx_iald C0 nI_47 g5 dX3_nextWith_28 ?_
            refine nx_iload_n C0 2 dX3_nextWith_29 rfl ?_
            refine nx_icmp_ne (tgt := 35) C0 dX3_nextWith_30 (by decide) (fun q => ?_) (fun q => ?_)
            · have h := niff q h
              obtain ⟨v6, ev6, h⟩ := nlet h
              refine nx_iinc (v := v6) (lv' := [(3, .int v6), (0, .ref (na B 45)), (1, .int a1), (2, .int a2)]) C0 3 dX3_nextWith_35 rfl ev6 (by decide) rfl ?_
              refine nx_goto (tgt := 2) C0 dX3_nextWith_38 (by decide) ?_
              refine nx_lv (lv' := [(0, .ref (na B 45)), (1, .int a1), (2, .int a2), (3, .int v6)]) [1, 2, 3, 0] rfl ?_
              exact ih a1 a2 v6 h
            · have h := nift q h
              refine nx_iload_n C0 3 dX3_nextWith_33 rfl ?_
              exact nr_i C0 hr dX3_nextWith_34 h
  refine nx_lv (lv' := [(0, .ref (na B 45)), (1, .int x1), (2, .int x2)]) [0, 1, 2] rfl ?_
  rw [fX3_nextWith] at h
  refine nx_iconst (v := 0) C0 dX3_nextWith_0 (by decide) ?_
  refine nx_istore_n (i := 3) (y := (0 : Int32)) (lv' := [(3, .int (0 : Int32)), (0, .ref (na B 45)), (1, .int x1), (2, .int x2)]) C0 dX3_nextWith_1 rfl (by decide) rfl rfl ?_
  refine nx_lv (lv' := [(0, .ref (na B 45)), (1, .int x1), (2, .int x2), (3, .int (0 : Int32))]) [1, 2, 3, 0] rfl ?_
  exact hfX3_nextWith_b2 4096 x1 x2 (0 : Int32) h
def rmX3_countTo : Room := { frames := 2, cells := 0, slots := 0, locals := 44 }
theorem ndX3_countTo : yX3_countTo.cls = RX3 ∧ yX3_countTo.cls ≠ "java/lang/invoke/MethodHandle" ∧ yX3_countTo.cls ≠ "java/lang/invoke/VarHandle" ∧ (parseMethodDescriptor yX3_countTo.desc).map (fun d => d.parameters.length) = some 1 := by decide +kernel
set_option maxRecDepth 100000 in
set_option maxHeartbeats 4000000 in
theorem mX3_countTo (l : Launch) (D : va_G) (B : nBT) (hB : nInj B) (x1 : Int32) (σ : nS)  {σ1 : nS} (h : fX3_countTo x1 σ = some ((), σ1)) : nMv l D B yX3_countTo wsX3_countTo rmX3_countTo [.ref (na B 45), .int x1] σ σ1 := by
  refine nmet (cc := cX3_countTo) (maxL := 4) (ret := none) (own := RX3) (av := [.ref (na B 45), .int x1]) (nQv D B σ1) hB (by decide) rfl rfl (Nat.le_of_ble_eq_true rfl) (fun p e s m args below meth c C0 hr => ?_)
  have hh0 : ∀ w ∈ wsX30, w ∈ wsX3_countTo := by decide +kernel
  have hh1 := C0.2.2.2.2.1 (Cond.fieldLink RX3 24 "NotInTheCoin$Steps" "goods" "I") (by decide +kernel)
  have hh2 := C0.2.2.2.2.1 (Cond.fieldLink RX3 15 "NotInTheCoin$Steps" "left" "[I") (by decide +kernel)
  have hfX3_countTo_b45 : ∀ (s35 : Int32 → nS → Option (Unit × nS)) (hs35 : ∀ (a2 : Int32) (σ : nS), s35 a2 σ = some ((), σ1) → nJ p l e rmX3_countTo s m args below meth c 0 0 (MQ below (nQv D B σ1 s.heap.size) args s 0 0 (nA B s.heap.size)) D B 4 35 [(0, .ref (na B 45)), (2, .int a2)] [] σ) (n : Nat) (a2 : Int32) (a3 : Int32) (σ : nS) (h : fX3_countTo_b45 s35 n a2 a3 σ = some ((), σ1)), nJ p l e rmX3_countTo s m args below meth c 0 0 (MQ below (nQv D B σ1 s.heap.size) args s 0 0 (nA B s.heap.size)) D B 4 45 [(0, .ref (na B 45)), (2, .int a2), (3, .int a3)] [] σ := by
    intro s35 hs35 n
    induction n with
    | zero => intro a2 a3 σ h; cases h
    | succ n ih =>
        intro a2 a3 σ h
        rw [fX3_countTo_b45] at h
        refine nx_iload_n C0 2 dX3_countTo_45 rfl ?_
        refine nx_aload_n C0 0 dX3_countTo_46 rfl ?_
        refine nx_gX3_goods C0 hh0 hh1 dX3_countTo_47 ?_
        refine nx_icmp_ge (tgt := 86) C0 dX3_countTo_50 (by decide) (fun q => ?_) (fun q => ?_)
        · have h := nift q h
          obtain ⟨v1, ev1, h⟩ := nlet h
          refine nx_iinc (v := v1) (lv' := [(2, .int v1), (0, .ref (na B 45)), (3, .int a3)]) C0 1 dX3_countTo_86 rfl ev1 (by decide) rfl ?_
          refine nx_goto (tgt := 35) C0 dX3_countTo_89 (by decide) ?_
          refine nx_lv (lv' := [(0, .ref (na B 45)), (2, .int v1)]) [1, 0] rfl ?_
          exact hs35 v1 σ h
        · have h := niff q h
          refine nx_aload_n C0 0 dX3_countTo_53 rfl ?_
          refine nx_gX3_left C0 hh0 hh2 dX3_countTo_54 ?_
          refine nx_iload_n C0 2 dX3_countTo_57 rfl ?_
          obtain ⟨g2, h⟩ := nguard h
          refine nx_iald C0 nI_47 g2 dX3_countTo_58 ?_
          refine nx_if_ge (tgt := 80) C0 dX3_countTo_59 (by decide) (fun q => ?_) (fun q => ?_)
          · have h := nift q h
            obtain ⟨v3, ev3, h⟩ := nlet h
            refine nx_iinc (v := v3) (lv' := [(3, .int v3), (0, .ref (na B 45)), (2, .int a2)]) C0 2 dX3_countTo_80 rfl ev3 (by decide) rfl ?_
            refine nx_goto (tgt := 45) C0 dX3_countTo_83 (by decide) ?_
            refine nx_lv (lv' := [(0, .ref (na B 45)), (2, .int a2), (3, .int v3)]) [1, 2, 0] rfl ?_
            exact ih a2 v3 σ h
          · have h := niff q h
            refine nx_aload_n C0 0 dX3_countTo_62 rfl ?_
            refine nx_iload_n C0 2 dX3_countTo_63 rfl ?_
            refine nx_iload_n C0 1 dX3_countTo_64 rfl ?_
            refine nx_iconst (v := 1) C0 dX3_countTo_65 (by decide) ?_
            refine nx_isub C0 dX3_countTo_66 ?_
            obtain ⟨r5, c4, h⟩ := nbind h
            refine nx_cVi (ci := 3) (n := 2) (As := [.int a3, .int (a2 - (1 : Int32))]) (st := []) C0 (mX3_nextWith l D B hB a3 (a2 - (1 : Int32)) σ c4) gX3_countTo_X3_nextWith rfl rfl rfl ndX3_nextWith ⟨Nat.le_of_ble_eq_true rfl, Nat.le_of_ble_eq_true rfl⟩ (by decide) rfl rfl rfl rfl (Nat.le_of_ble_eq_true rfl) rfl dX3_countTo_67 ?_
            refine nx_if_lt (tgt := 80) C0 dX3_countTo_70 (by decide) (fun q => ?_) (fun q => ?_)
            · have h := nift q h
              obtain ⟨v6, ev6, h⟩ := nlet h
              refine nx_iinc (v := v6) (lv' := [(3, .int v6), (0, .ref (na B 45)), (2, .int a2)]) C0 2 dX3_countTo_80 rfl ev6 (by decide) rfl ?_
              refine nx_goto (tgt := 45) C0 dX3_countTo_83 (by decide) ?_
              refine nx_lv (lv' := [(0, .ref (na B 45)), (2, .int a2), (3, .int v6)]) [1, 2, 0] rfl ?_
              exact ih a2 v6 σ h
            · have h := niff q h
              refine nx_aload_n C0 0 dX3_countTo_73 rfl ?_
              refine nx_gX3_left C0 hh0 hh2 dX3_countTo_74 ?_
              refine nx_iload_n C0 2 dX3_countTo_77 rfl ?_
              refine nx_iload_n C0 1 dX3_countTo_78 rfl ?_
              obtain ⟨g7, h⟩ := nguard h
              obtain ⟨t8, et8, h⟩ := nlet h
              refine nx_iast C0 nI_47 g7 dX3_countTo_79 et8 ?_
              obtain ⟨v9, ev9, h⟩ := nlet h
              refine nx_iinc (v := v9) (lv' := [(3, .int v9), (0, .ref (na B 45)), (2, .int a2)]) C0 2 dX3_countTo_80 rfl ev9 (by decide) rfl ?_
              refine nx_goto (tgt := 45) C0 dX3_countTo_83 (by decide) ?_
              refine nx_lv (lv' := [(0, .ref (na B 45)), (2, .int a2), (3, .int v9)]) [1, 2, 0] rfl ?_
              exact ih a2 v9 t8 h
  have hfX3_countTo_b35 : ∀  (n : Nat) (a2 : Int32) (σ : nS) (h : fX3_countTo_b35  n a2 σ = some ((), σ1)), nJ p l e rmX3_countTo s m args below meth c 0 0 (MQ below (nQv D B σ1 s.heap.size) args s 0 0 (nA B s.heap.size)) D B 4 35 [(0, .ref (na B 45)), (2, .int a2)] [] σ := by
    intro  n
    induction n with
    | zero => intro a2 σ h; cases h
    | succ n ih =>
        intro a2 σ h
        rw [fX3_countTo_b35] at h
        refine nx_iload_n C0 1 dX3_countTo_35 rfl ?_
        refine nx_aload_n C0 0 dX3_countTo_36 rfl ?_
        refine nx_gX3_goods C0 hh0 hh1 dX3_countTo_37 ?_
        refine nx_icmp_ge (tgt := 92) C0 dX3_countTo_40 (by decide) (fun q => ?_) (fun q => ?_)
        · have h := nift q h
          exact nr_v2 C0 hr dX3_countTo_92 h
        · have h := niff q h
          refine nx_iconst (v := 0) C0 dX3_countTo_43 (by decide) ?_
          refine nx_istore_n (i := 3) (y := (0 : Int32)) (lv' := [(3, .int (0 : Int32)), (0, .ref (na B 45)), (2, .int a2)]) C0 dX3_countTo_44 rfl (by decide) rfl rfl ?_
          refine nx_lv (lv' := [(0, .ref (na B 45)), (2, .int a2), (3, .int (0 : Int32))]) [1, 2, 0] rfl ?_
          exact hfX3_countTo_b45 (fX3_countTo_b35 n) ih 4096 a2 (0 : Int32) σ h
  have hfX3_countTo_b2 : ∀  (n : Nat) (a1 : Int32) (a2 : Int32) (σ : nS) (h : fX3_countTo_b2  n a1 a2 σ = some ((), σ1)), nJ p l e rmX3_countTo s m args below meth c 0 0 (MQ below (nQv D B σ1 s.heap.size) args s 0 0 (nA B s.heap.size)) D B 4 2 [(0, .ref (na B 45)), (1, .int a1), (2, .int a2)] [] σ := by
    intro  n
    induction n with
    | zero => intro a1 a2 σ h; cases h
    | succ n ih =>
        intro a1 a2 σ h
        rw [fX3_countTo_b2] at h
        refine nx_iload_n C0 2 dX3_countTo_2 rfl ?_
        refine nx_aload_n C0 0 dX3_countTo_3 rfl ?_
        refine nx_gX3_goods C0 hh0 hh1 dX3_countTo_4 ?_
        refine nx_icmp_ge (tgt := 33) C0 dX3_countTo_7 (by decide) (fun q => ?_) (fun q => ?_)
        · have h := nift q h
          refine nx_iconst (v := 1) C0 dX3_countTo_33 (by decide) ?_
          refine nx_istore_n (i := 2) (y := (1 : Int32)) (lv' := [(2, .int (1 : Int32)), (0, .ref (na B 45)), (1, .int a1)]) C0 dX3_countTo_34 rfl (by decide) rfl rfl ?_
          refine nx_lv (lv' := [(0, .ref (na B 45)), (2, .int (1 : Int32))]) [1, 0] rfl ?_
          exact hfX3_countTo_b35 4096 (1 : Int32) σ h
        · have h := niff q h
          refine nx_aload_n C0 0 dX3_countTo_10 rfl ?_
          refine nx_gX3_left C0 hh0 hh2 dX3_countTo_11 ?_
          refine nx_iload_n C0 2 dX3_countTo_14 rfl ?_
          refine nx_iload_n C0 2 dX3_countTo_15 rfl ?_
          refine nx_iload_n C0 1 dX3_countTo_16 rfl ?_
          refine nx_icmp_ne (tgt := 24) C0 dX3_countTo_17 (by decide) (fun q => ?_) (fun q => ?_)
          · have h := niff q h
            refine nx_bipush (v := -4) C0 dX3_countTo_24 (by decide) ?_
            obtain ⟨g10, h⟩ := nguard h
            obtain ⟨t11, et11, h⟩ := nlet h
            refine nx_iast C0 nI_47 g10 dX3_countTo_26 et11 ?_
            obtain ⟨v12, ev12, h⟩ := nlet h
            refine nx_iinc (v := v12) (lv' := [(2, .int v12), (0, .ref (na B 45)), (1, .int a1)]) C0 2 dX3_countTo_27 rfl ev12 (by decide) rfl ?_
            refine nx_goto (tgt := 2) C0 dX3_countTo_30 (by decide) ?_
            refine nx_lv (lv' := [(0, .ref (na B 45)), (1, .int a1), (2, .int v12)]) [1, 2, 0] rfl ?_
            exact ih a1 v12 t11 h
          · have h := nift q h
            refine nx_iconst (v := 0) C0 dX3_countTo_20 (by decide) ?_
            refine nx_goto (tgt := 26) C0 dX3_countTo_21 (by decide) ?_
            obtain ⟨g13, h⟩ := nguard h
            obtain ⟨t14, et14, h⟩ := nlet h
            refine nx_iast C0 nI_47 g13 dX3_countTo_26 et14 ?_
            obtain ⟨v15, ev15, h⟩ := nlet h
            refine nx_iinc (v := v15) (lv' := [(2, .int v15), (0, .ref (na B 45)), (1, .int a1)]) C0 2 dX3_countTo_27 rfl ev15 (by decide) rfl ?_
            refine nx_goto (tgt := 2) C0 dX3_countTo_30 (by decide) ?_
            refine nx_lv (lv' := [(0, .ref (na B 45)), (1, .int a1), (2, .int v15)]) [1, 2, 0] rfl ?_
            exact ih a1 v15 t14 h
  refine nx_lv (lv' := [(0, .ref (na B 45)), (1, .int x1)]) [0, 1] rfl ?_
  rw [fX3_countTo] at h
  refine nx_iconst (v := 0) C0 dX3_countTo_0 (by decide) ?_
  refine nx_istore_n (i := 2) (y := (0 : Int32)) (lv' := [(2, .int (0 : Int32)), (0, .ref (na B 45)), (1, .int x1)]) C0 dX3_countTo_1 rfl (by decide) rfl rfl ?_
  refine nx_lv (lv' := [(0, .ref (na B 45)), (1, .int x1), (2, .int (0 : Int32))]) [1, 2, 0] rfl ?_
  exact hfX3_countTo_b2 4096 x1 (0 : Int32) σ h
def rmX3_firstFrom : Room := { frames := 2, cells := 0, slots := 0, locals := 44 }
theorem ndX3_firstFrom : yX3_firstFrom.cls = RX3 ∧ yX3_firstFrom.cls ≠ "java/lang/invoke/MethodHandle" ∧ yX3_firstFrom.cls ≠ "java/lang/invoke/VarHandle" ∧ (parseMethodDescriptor yX3_firstFrom.desc).map (fun d => d.parameters.length) = some 1 := by decide +kernel
set_option maxRecDepth 100000 in
set_option maxHeartbeats 4000000 in
theorem mX3_firstFrom (l : Launch) (D : va_G) (B : nBT) (hB : nInj B) (x1 : Int32) (σ : nS) {r : Int32}  (h : fX3_firstFrom x1 σ = some r) : nMi l D B yX3_firstFrom wsX3_firstFrom rmX3_firstFrom [.ref (na B 45), .int x1] σ r σ := by
  refine nmet (cc := cX3_firstFrom) (maxL := 2) (ret := (some .int)) (own := RX3) (av := [.ref (na B 45), .int x1]) (nQi D B r σ) hB (by decide) rfl rfl (Nat.le_of_ble_eq_true rfl) (fun p e s m args below meth c C0 hr => ?_)
  have hh0 : ∀ w ∈ wsX30, w ∈ wsX3_firstFrom := by decide +kernel
  have hh1 := C0.2.2.2.2.1 (Cond.fieldLink RX3 15 "NotInTheCoin$Steps" "left" "[I") (by decide +kernel)
  refine nx_lv (lv' := [(0, .ref (na B 45)), (1, .int x1)]) [0, 1] rfl ?_
  rw [fX3_firstFrom] at h
  refine nx_aload_n C0 0 dX3_firstFrom_0 rfl ?_
  refine nx_gX3_left C0 hh0 hh1 dX3_firstFrom_1 ?_
  refine nx_iload_n C0 1 dX3_firstFrom_4 rfl ?_
  obtain ⟨g1, h⟩ := nguard h
  refine nx_iald C0 nI_47 g1 dX3_firstFrom_5 ?_
  refine nx_if_le (tgt := 25) C0 dX3_firstFrom_6 (by decide) (fun q => ?_) (fun q => ?_)
  · have h := nift q h
    refine nx_bipush (v := -4) C0 dX3_firstFrom_25 (by decide) ?_
    exact nr_i C0 hr dX3_firstFrom_27 h
  · have h := niff q h
    refine nx_aload_n C0 0 dX3_firstFrom_9 rfl ?_
    refine nx_iload_n C0 1 dX3_firstFrom_10 rfl ?_
    refine nx_aload_n C0 0 dX3_firstFrom_11 rfl ?_
    refine nx_gX3_left C0 hh0 hh1 dX3_firstFrom_12 ?_
    refine nx_iload_n C0 1 dX3_firstFrom_15 rfl ?_
    obtain ⟨g2, h⟩ := nguard h
    refine nx_iald C0 nI_47 g2 dX3_firstFrom_16 ?_
    refine nx_iconst (v := 1) C0 dX3_firstFrom_17 (by decide) ?_
    refine nx_isub C0 dX3_firstFrom_18 ?_
    obtain ⟨r4, c3, h⟩ := nbind h
    refine nx_cVi (ci := 3) (n := 2) (As := [.int x1, .int ((σ 47 (x1).toNatClampNeg) - (1 : Int32))]) (st := []) C0 (mX3_nextWith l D B hB x1 ((σ 47 (x1).toNatClampNeg) - (1 : Int32)) σ c3) gX3_firstFrom_X3_nextWith rfl rfl rfl ndX3_nextWith ⟨Nat.le_of_ble_eq_true rfl, Nat.le_of_ble_eq_true rfl⟩ (by decide) rfl rfl rfl rfl (Nat.le_of_ble_eq_true rfl) rfl dX3_firstFrom_19 ?_
    refine nx_goto (tgt := 27) C0 dX3_firstFrom_22 (by decide) ?_
    exact nr_i C0 hr dX3_firstFrom_27 h
def rmX3_reachedFrom : Room := { frames := 1, cells := 0, slots := 0, locals := 21 }
theorem ndX3_reachedFrom : yX3_reachedFrom.cls = RX3 ∧ yX3_reachedFrom.cls ≠ "java/lang/invoke/MethodHandle" ∧ yX3_reachedFrom.cls ≠ "java/lang/invoke/VarHandle" ∧ (parseMethodDescriptor yX3_reachedFrom.desc).map (fun d => d.parameters.length) = some 1 := by decide +kernel
set_option maxRecDepth 100000 in
set_option maxHeartbeats 4000000 in
theorem mX3_reachedFrom (l : Launch) (D : va_G) (B : nBT) (hB : nInj B) (x1 : Int32) (σ : nS) {r : Int32}  (h : fX3_reachedFrom x1 σ = some r) : nMi l D B yX3_reachedFrom wsX3_reachedFrom rmX3_reachedFrom [.ref (na B 45), .int x1] σ r σ := by
  refine nmet (cc := cX3_reachedFrom) (maxL := 5) (ret := (some .int)) (own := RX3) (av := [.ref (na B 45), .int x1]) (nQi D B r σ) hB (by decide) rfl rfl (Nat.le_of_ble_eq_true rfl) (fun p e s m args below meth c C0 hr => ?_)
  have hh0 : ∀ w ∈ wsX30, w ∈ wsX3_reachedFrom := by decide +kernel
  have hh1 := C0.2.2.2.2.1 (Cond.fieldLink RX3 24 "NotInTheCoin$Steps" "goods" "I") (by decide +kernel)
  have hh2 := C0.2.2.2.2.1 (Cond.static yX5_has) (by decide +kernel)
  have hh3 := C0.2.2.2.2.1 (Cond.initialized RX5) (by decide +kernel)
  have hh4 := C0.2.2.2.2.1 (Cond.fieldLink RX3 9 "NotInTheCoin$Steps" "next" "[I") (by decide +kernel)
  have hfX3_reachedFrom_b17 : ∀ (s6 : Int32 → Int32 → nS → Option Int32) (hs6 : ∀ (a2 : Int32) (a3 : Int32), s6 a2 a3 σ = some r → nJ p l e rmX3_reachedFrom s m args below meth c 0 0 (MQ below (nQi D B r σ s.heap.size) args s 0 0 (nA B s.heap.size)) D B 5 6 [(0, .ref (na B 45)), (2, .int a2), (3, .int a3)] [] σ) (n : Nat) (a2 : Int32) (a3 : Int32) (a4 : Int32) (h : fX3_reachedFrom_b17 s6 n a2 a3 a4 σ = some r), nJ p l e rmX3_reachedFrom s m args below meth c 0 0 (MQ below (nQi D B r σ s.heap.size) args s 0 0 (nA B s.heap.size)) D B 5 17 [(0, .ref (na B 45)), (2, .int a2), (3, .int a3), (4, .int a4)] [] σ := by
    intro s6 hs6 n
    induction n with
    | zero => intro a2 a3 a4 h; cases h
    | succ n ih =>
        intro a2 a3 a4 h
        rw [fX3_reachedFrom_b17] at h
        refine nx_iload C0 3 dX3_reachedFrom_17 rfl ?_
        refine nx_aload_n C0 0 dX3_reachedFrom_19 rfl ?_
        refine nx_gX3_goods C0 hh0 hh1 dX3_reachedFrom_20 ?_
        refine nx_icmp_ge (tgt := 51) C0 dX3_reachedFrom_23 (by decide) (fun q => ?_) (fun q => ?_)
        · have h := nift q h
          obtain ⟨v1, ev1, h⟩ := nlet h
          refine nx_iinc (v := v1) (lv' := [(3, .int v1), (0, .ref (na B 45)), (2, .int a2), (4, .int a4)]) C0 2 dX3_reachedFrom_51 rfl ev1 (by decide) rfl ?_
          refine nx_goto (tgt := 6) C0 dX3_reachedFrom_54 (by decide) ?_
          refine nx_lv (lv' := [(0, .ref (na B 45)), (2, .int a2), (3, .int v1)]) [1, 2, 0] rfl ?_
          exact hs6 a2 v1 h
        · have h := niff q h
          refine nx_iload_n C0 1 dX3_reachedFrom_26 rfl ?_
          refine nx_iload C0 3 dX3_reachedFrom_27 rfl ?_
          obtain ⟨r3, c2, h⟩ := nbind h
          refine nx_cNi (n := 2) (As := [.int a2, .int a4]) (st := []) C0 (mX5_has l D B hB a2 a4 σ c2) gX3_reachedFrom_X5_has_n32 (by decide +kernel) hh2 hh3 rfl rfl rfl ndX5_has ⟨Nat.le_of_ble_eq_true rfl, Nat.le_of_ble_eq_true rfl⟩ rfl (Nat.le_of_ble_eq_true rfl) rfl dX3_reachedFrom_29 ?_
          refine nx_if_eq (tgt := 45) C0 dX3_reachedFrom_32 (by decide) (fun q => ?_) (fun q => ?_)
          · have h := nift q h
            obtain ⟨v4, ev4, h⟩ := nlet h
            refine nx_iinc (v := v4) (lv' := [(4, .int v4), (0, .ref (na B 45)), (2, .int a2), (3, .int a3)]) C0 3 dX3_reachedFrom_45 rfl ev4 (by decide) rfl ?_
            refine nx_goto (tgt := 17) C0 dX3_reachedFrom_48 (by decide) ?_
            refine nx_lv (lv' := [(0, .ref (na B 45)), (2, .int a2), (3, .int a3), (4, .int v4)]) [1, 2, 3, 0] rfl ?_
            exact ih a2 a3 v4 h
          · have h := niff q h
            refine nx_iload_n C0 1 dX3_reachedFrom_35 rfl ?_
            refine nx_aload_n C0 0 dX3_reachedFrom_36 rfl ?_
            refine nx_gX3_next C0 hh0 hh4 dX3_reachedFrom_37 ?_
            refine nx_iload C0 3 dX3_reachedFrom_40 rfl ?_
            obtain ⟨g5, h⟩ := nguard h
            refine nx_iald C0 nI_46 g5 dX3_reachedFrom_42 ?_
            refine nx_ior C0 dX3_reachedFrom_43 ?_
            obtain ⟨v6, ev6, h⟩ := nlet h
            refine nx_istore_n (i := 2) (y := v6) (lv' := [(2, .int v6), (0, .ref (na B 45)), (3, .int a3), (4, .int a4)]) C0 dX3_reachedFrom_44 rfl (by decide) ev6 rfl ?_
            obtain ⟨v7, ev7, h⟩ := nlet h
            refine nx_iinc (v := v7) (lv' := [(4, .int v7), (2, .int v6), (0, .ref (na B 45)), (3, .int a3)]) C0 3 dX3_reachedFrom_45 rfl ev7 (by decide) rfl ?_
            refine nx_goto (tgt := 17) C0 dX3_reachedFrom_48 (by decide) ?_
            refine nx_lv (lv' := [(0, .ref (na B 45)), (2, .int v6), (3, .int a3), (4, .int v7)]) [2, 1, 3, 0] rfl ?_
            exact ih v6 a3 v7 h
  have hfX3_reachedFrom_b6 : ∀  (n : Nat) (a2 : Int32) (a3 : Int32) (h : fX3_reachedFrom_b6  n a2 a3 σ = some r), nJ p l e rmX3_reachedFrom s m args below meth c 0 0 (MQ below (nQi D B r σ s.heap.size) args s 0 0 (nA B s.heap.size)) D B 5 6 [(0, .ref (na B 45)), (2, .int a2), (3, .int a3)] [] σ := by
    intro  n
    induction n with
    | zero => intro a2 a3 h; cases h
    | succ n ih =>
        intro a2 a3 h
        rw [fX3_reachedFrom_b6] at h
        refine nx_iload_n C0 2 dX3_reachedFrom_6 rfl ?_
        refine nx_aload_n C0 0 dX3_reachedFrom_7 rfl ?_
        refine nx_gX3_goods C0 hh0 hh1 dX3_reachedFrom_8 ?_
        refine nx_icmp_ge (tgt := 57) C0 dX3_reachedFrom_11 (by decide) (fun q => ?_) (fun q => ?_)
        · have h := nift q h
          refine nx_iload_n C0 1 dX3_reachedFrom_57 rfl ?_
          exact nr_i C0 hr dX3_reachedFrom_58 h
        · have h := niff q h
          refine nx_iconst (v := 0) C0 dX3_reachedFrom_14 (by decide) ?_
          refine nx_istore (i := 4) (y := (0 : Int32)) (lv' := [(4, .int (0 : Int32)), (0, .ref (na B 45)), (2, .int a2), (3, .int a3)]) C0 dX3_reachedFrom_15 (by decide) rfl rfl ?_
          refine nx_lv (lv' := [(0, .ref (na B 45)), (2, .int a2), (3, .int a3), (4, .int (0 : Int32))]) [1, 2, 3, 0] rfl ?_
          exact hfX3_reachedFrom_b17 (fX3_reachedFrom_b6 n) ih 4096 a2 a3 (0 : Int32) h
  refine nx_lv (lv' := [(0, .ref (na B 45)), (1, .int x1)]) [0, 1] rfl ?_
  rw [fX3_reachedFrom] at h
  refine nx_iconst (v := 1) C0 dX3_reachedFrom_0 (by decide) ?_
  refine nx_iload_n C0 1 dX3_reachedFrom_1 rfl ?_
  refine nx_ishl C0 dX3_reachedFrom_2 ?_
  obtain ⟨v8, ev8, h⟩ := nlet h
  refine nx_istore_n (i := 2) (y := v8) (lv' := [(2, .int v8), (0, .ref (na B 45)), (1, .int x1)]) C0 dX3_reachedFrom_3 rfl (by decide) ev8 rfl ?_
  refine nx_iconst (v := 1) C0 dX3_reachedFrom_4 (by decide) ?_
  refine nx_istore_n (i := 3) (y := (1 : Int32)) (lv' := [(3, .int (1 : Int32)), (2, .int v8), (0, .ref (na B 45)), (1, .int x1)]) C0 dX3_reachedFrom_5 rfl (by decide) rfl rfl ?_
  refine nx_lv (lv' := [(0, .ref (na B 45)), (2, .int v8), (3, .int (1 : Int32))]) [2, 1, 0] rfl ?_
  exact hfX3_reachedFrom_b6 4096 v8 (1 : Int32) h
def rmX4_become : Room := { frames := 1, cells := 0, slots := 0, locals := 40 }
theorem ndX4_become : yX4_become.cls = RX4 ∧ yX4_become.cls ≠ "java/lang/invoke/MethodHandle" ∧ yX4_become.cls ≠ "java/lang/invoke/VarHandle" ∧ (parseMethodDescriptor yX4_become.desc).map (fun d => d.parameters.length) = some 1 := by decide +kernel
set_option maxRecDepth 100000 in
set_option maxHeartbeats 4000000 in
theorem mX4_become (l : Launch) (D : va_G) (B : nBT) (hB : nInj B) {k0 : Nat} (hk0 : nT k0) {k1 : Nat} (hk1 : nT k1) (σ : nS)  {σ1 : nS} (h : fX4_become k0 k1 σ = some ((), σ1)) : nMv l D B yX4_become wsX4_become rmX4_become [.ref (na B k0), .ref (na B k1)] σ σ1 := by
  refine nmet (cc := cX4_become) (maxL := 2) (ret := none) (own := RX4) (av := [.ref (na B k0), .ref (na B k1)]) (nQv D B σ1) hB (by decide) rfl rfl (Nat.le_of_ble_eq_true rfl) (fun p e s m args below meth c C0 hr => ?_)
  have hh0 : ∀ w ∈ wsX40, w ∈ wsX4_become := by decide +kernel
  have hh1 := C0.2.2.2.2.1 (Cond.fieldLink RX4 9 "NotInTheCoin$Town" "kindOf" "[I") (by decide +kernel)
  have hh2 := C0.2.2.2.2.1 (Cond.methodLink RX4 36 arraycopyName) (by decide +kernel)
  have hh3 := C0.2.2.2.2.1 (Cond.native arraycopyName) (by decide +kernel)
  have hh4 := C0.2.2.2.2.1 (Cond.static arraycopyName) (by decide +kernel)
  have hh5 := C0.2.2.2.2.1 (Cond.initialized "java/lang/System") (by decide +kernel)
  have hh6 := C0.2.2.2.2.1 (Cond.fieldLink RX4 15 "NotInTheCoin$Town" "figureOf" "[I") (by decide +kernel)
  have hh7 := C0.2.2.2.2.1 (Cond.fieldLink RX4 18 "NotInTheCoin$Town" "ownerOf" "[I") (by decide +kernel)
  have hh8 := C0.2.2.2.2.1 (Cond.fieldLink RX4 42 "NotInTheCoin$Town" "goods" "I") (by decide +kernel)
  have hh9 := C0.2.2.2.2.1 (Cond.fieldLink RX4 21 "NotInTheCoin$Town" "tasteOf" "[I") (by decide +kernel)
  have hh10 := C0.2.2.2.2.1 (Cond.fieldLink RX4 46 "NotInTheCoin$Town" "people" "I") (by decide +kernel)
  have hh11 := C0.2.2.2.2.1 (Cond.fieldLink RX4 24 "NotInTheCoin$Town" "lenderOf" "[I") (by decide +kernel)
  have hh12 := C0.2.2.2.2.1 (Cond.fieldLink RX4 27 "NotInTheCoin$Town" "debtorOf" "[I") (by decide +kernel)
  have hh13 := C0.2.2.2.2.1 (Cond.fieldLink RX4 30 "NotInTheCoin$Town" "goodsOf" "[I") (by decide +kernel)
  have hh14 := C0.2.2.2.2.1 (Cond.fieldLink RX4 49 "NotInTheCoin$Town" "loans" "I") (by decide +kernel)
  have hh15 := C0.2.2.2.2.1 (Cond.fieldLink RX4 52 "NotInTheCoin$Town" "open" "I") (by decide +kernel)
  have hh16 := C0.2.2.2.2.1 (Cond.fieldLink RX4 33 "NotInTheCoin$Town" "classOf" "[I") (by decide +kernel)
  have hh17 := C0.2.2.2.2.1 (Cond.fieldLink RX4 55 "NotInTheCoin$Town" "week" "I") (by decide +kernel)
  refine nx_lv (lv' := [(0, .ref (na B k0)), (1, .ref (na B k1))]) [0, 1] rfl ?_
  rw [fX4_become] at h
  refine nx_aload_n C0 1 dX4_become_0 rfl ?_
  refine nx_gX4_kindOf C0 hk1 hh0 hh1 dX4_become_1 ?_
  refine nx_iconst (v := 0) C0 dX4_become_4 (by decide) ?_
  refine nx_aload_n C0 0 dX4_become_5 rfl ?_
  refine nx_gX4_kindOf C0 hk0 hh0 hh1 dX4_become_6 ?_
  refine nx_iconst (v := 0) C0 dX4_become_9 (by decide) ?_
  refine nx_bipush (v := 8) C0 dX4_become_10 (by decide) ?_
  obtain ⟨g1, h⟩ := nguard h
  obtain ⟨g2, h⟩ := nguard h
  obtain ⟨g3, h⟩ := nguard h
  obtain ⟨t4, et4, h⟩ := nlet h
  refine nx_copyi C0 (nT_a1 hk1) (nT_a1 hk0) hh2 hh3 hh4 hh5 g1 g2 g3 ⟨Nat.le_of_ble_eq_true rfl, Nat.le_of_ble_eq_true rfl⟩ dX4_become_12 et4 ?_
  refine nx_aload_n C0 1 dX4_become_15 rfl ?_
  refine nx_gX4_figureOf C0 hk1 hh0 hh6 dX4_become_16 ?_
  refine nx_iconst (v := 0) C0 dX4_become_19 (by decide) ?_
  refine nx_aload_n C0 0 dX4_become_20 rfl ?_
  refine nx_gX4_figureOf C0 hk0 hh0 hh6 dX4_become_21 ?_
  refine nx_iconst (v := 0) C0 dX4_become_24 (by decide) ?_
  refine nx_bipush (v := 8) C0 dX4_become_25 (by decide) ?_
  obtain ⟨g5, h⟩ := nguard h
  obtain ⟨g6, h⟩ := nguard h
  obtain ⟨g7, h⟩ := nguard h
  obtain ⟨t8, et8, h⟩ := nlet h
  refine nx_copyi C0 (nT_a2 hk1) (nT_a2 hk0) hh2 hh3 hh4 hh5 g5 g6 g7 ⟨Nat.le_of_ble_eq_true rfl, Nat.le_of_ble_eq_true rfl⟩ dX4_become_27 et8 ?_
  refine nx_aload_n C0 1 dX4_become_30 rfl ?_
  refine nx_gX4_ownerOf C0 hk1 hh0 hh7 dX4_become_31 ?_
  refine nx_iconst (v := 0) C0 dX4_become_34 (by decide) ?_
  refine nx_aload_n C0 0 dX4_become_35 rfl ?_
  refine nx_gX4_ownerOf C0 hk0 hh0 hh7 dX4_become_36 ?_
  refine nx_iconst (v := 0) C0 dX4_become_39 (by decide) ?_
  refine nx_bipush (v := 8) C0 dX4_become_40 (by decide) ?_
  obtain ⟨g9, h⟩ := nguard h
  obtain ⟨g10, h⟩ := nguard h
  obtain ⟨g11, h⟩ := nguard h
  obtain ⟨t12, et12, h⟩ := nlet h
  refine nx_copyi C0 (nT_a3 hk1) (nT_a3 hk0) hh2 hh3 hh4 hh5 g9 g10 g11 ⟨Nat.le_of_ble_eq_true rfl, Nat.le_of_ble_eq_true rfl⟩ dX4_become_42 et12 ?_
  refine nx_aload_n C0 0 dX4_become_45 rfl ?_
  refine nx_aload_n C0 1 dX4_become_46 rfl ?_
  refine nx_gX4_goods C0 hk1 hh0 hh8 dX4_become_47 ?_
  obtain ⟨t13, et13, h⟩ := nlet h
  refine nx_pX4_goods C0 hk0 hh0 hh8 dX4_become_50 et13 ?_
  refine nx_aload_n C0 1 dX4_become_53 rfl ?_
  refine nx_gX4_tasteOf C0 hk1 hh0 hh9 dX4_become_54 ?_
  refine nx_iconst (v := 0) C0 dX4_become_57 (by decide) ?_
  refine nx_aload_n C0 0 dX4_become_58 rfl ?_
  refine nx_gX4_tasteOf C0 hk0 hh0 hh9 dX4_become_59 ?_
  refine nx_iconst (v := 0) C0 dX4_become_62 (by decide) ?_
  refine nx_bipush (v := 6) C0 dX4_become_63 (by decide) ?_
  obtain ⟨g14, h⟩ := nguard h
  obtain ⟨g15, h⟩ := nguard h
  obtain ⟨g16, h⟩ := nguard h
  obtain ⟨t17, et17, h⟩ := nlet h
  refine nx_copyi C0 (nT_a4 hk1) (nT_a4 hk0) hh2 hh3 hh4 hh5 g14 g15 g16 ⟨Nat.le_of_ble_eq_true rfl, Nat.le_of_ble_eq_true rfl⟩ dX4_become_65 et17 ?_
  refine nx_aload_n C0 0 dX4_become_68 rfl ?_
  refine nx_aload_n C0 1 dX4_become_69 rfl ?_
  refine nx_gX4_people C0 hk1 hh0 hh10 dX4_become_70 ?_
  obtain ⟨t18, et18, h⟩ := nlet h
  refine nx_pX4_people C0 hk0 hh0 hh10 dX4_become_73 et18 ?_
  refine nx_aload_n C0 1 dX4_become_76 rfl ?_
  refine nx_gX4_lenderOf C0 hk1 hh0 hh11 dX4_become_77 ?_
  refine nx_iconst (v := 0) C0 dX4_become_80 (by decide) ?_
  refine nx_aload_n C0 0 dX4_become_81 rfl ?_
  refine nx_gX4_lenderOf C0 hk0 hh0 hh11 dX4_become_82 ?_
  refine nx_iconst (v := 0) C0 dX4_become_85 (by decide) ?_
  refine nx_bipush (v := 8) C0 dX4_become_86 (by decide) ?_
  obtain ⟨g19, h⟩ := nguard h
  obtain ⟨g20, h⟩ := nguard h
  obtain ⟨g21, h⟩ := nguard h
  obtain ⟨t22, et22, h⟩ := nlet h
  refine nx_copyi C0 (nT_a5 hk1) (nT_a5 hk0) hh2 hh3 hh4 hh5 g19 g20 g21 ⟨Nat.le_of_ble_eq_true rfl, Nat.le_of_ble_eq_true rfl⟩ dX4_become_88 et22 ?_
  refine nx_aload_n C0 1 dX4_become_91 rfl ?_
  refine nx_gX4_debtorOf C0 hk1 hh0 hh12 dX4_become_92 ?_
  refine nx_iconst (v := 0) C0 dX4_become_95 (by decide) ?_
  refine nx_aload_n C0 0 dX4_become_96 rfl ?_
  refine nx_gX4_debtorOf C0 hk0 hh0 hh12 dX4_become_97 ?_
  refine nx_iconst (v := 0) C0 dX4_become_100 (by decide) ?_
  refine nx_bipush (v := 8) C0 dX4_become_101 (by decide) ?_
  obtain ⟨g23, h⟩ := nguard h
  obtain ⟨g24, h⟩ := nguard h
  obtain ⟨g25, h⟩ := nguard h
  obtain ⟨t26, et26, h⟩ := nlet h
  refine nx_copyi C0 (nT_a6 hk1) (nT_a6 hk0) hh2 hh3 hh4 hh5 g23 g24 g25 ⟨Nat.le_of_ble_eq_true rfl, Nat.le_of_ble_eq_true rfl⟩ dX4_become_103 et26 ?_
  refine nx_aload_n C0 1 dX4_become_106 rfl ?_
  refine nx_gX4_goodsOf C0 hk1 hh0 hh13 dX4_become_107 ?_
  refine nx_iconst (v := 0) C0 dX4_become_110 (by decide) ?_
  refine nx_aload_n C0 0 dX4_become_111 rfl ?_
  refine nx_gX4_goodsOf C0 hk0 hh0 hh13 dX4_become_112 ?_
  refine nx_iconst (v := 0) C0 dX4_become_115 (by decide) ?_
  refine nx_bipush (v := 8) C0 dX4_become_116 (by decide) ?_
  obtain ⟨g27, h⟩ := nguard h
  obtain ⟨g28, h⟩ := nguard h
  obtain ⟨g29, h⟩ := nguard h
  obtain ⟨t30, et30, h⟩ := nlet h
  refine nx_copyi C0 (nT_a7 hk1) (nT_a7 hk0) hh2 hh3 hh4 hh5 g27 g28 g29 ⟨Nat.le_of_ble_eq_true rfl, Nat.le_of_ble_eq_true rfl⟩ dX4_become_118 et30 ?_
  refine nx_aload_n C0 0 dX4_become_121 rfl ?_
  refine nx_aload_n C0 1 dX4_become_122 rfl ?_
  refine nx_gX4_loans C0 hk1 hh0 hh14 dX4_become_123 ?_
  obtain ⟨t31, et31, h⟩ := nlet h
  refine nx_pX4_loans C0 hk0 hh0 hh14 dX4_become_126 et31 ?_
  refine nx_aload_n C0 0 dX4_become_129 rfl ?_
  refine nx_aload_n C0 1 dX4_become_130 rfl ?_
  refine nx_gX4_open C0 hk1 hh0 hh15 dX4_become_131 ?_
  obtain ⟨t32, et32, h⟩ := nlet h
  refine nx_pX4_open C0 hk0 hh0 hh15 dX4_become_134 et32 ?_
  refine nx_aload_n C0 1 dX4_become_137 rfl ?_
  refine nx_gX4_classOf C0 hk1 hh0 hh16 dX4_become_138 ?_
  refine nx_iconst (v := 0) C0 dX4_become_141 (by decide) ?_
  refine nx_aload_n C0 0 dX4_become_142 rfl ?_
  refine nx_gX4_classOf C0 hk0 hh0 hh16 dX4_become_143 ?_
  refine nx_iconst (v := 0) C0 dX4_become_146 (by decide) ?_
  refine nx_bipush (v := 8) C0 dX4_become_147 (by decide) ?_
  obtain ⟨g33, h⟩ := nguard h
  obtain ⟨g34, h⟩ := nguard h
  obtain ⟨g35, h⟩ := nguard h
  obtain ⟨t36, et36, h⟩ := nlet h
  refine nx_copyi C0 (nT_a8 hk1) (nT_a8 hk0) hh2 hh3 hh4 hh5 g33 g34 g35 ⟨Nat.le_of_ble_eq_true rfl, Nat.le_of_ble_eq_true rfl⟩ dX4_become_149 et36 ?_
  refine nx_aload_n C0 0 dX4_become_152 rfl ?_
  refine nx_aload_n C0 1 dX4_become_153 rfl ?_
  refine nx_gX4_week C0 hk1 hh0 hh17 dX4_become_154 ?_
  obtain ⟨t37, et37, h⟩ := nlet h
  refine nx_pX4_week C0 hk0 hh0 hh17 dX4_become_157 et37 ?_
  exact nr_v2 C0 hr dX4_become_160 h
def rmX4_isGoods : Room := { frames := 0, cells := 0, slots := 0, locals := 0 }
theorem ndX4_isGoods : yX4_isGoods.cls = RX4 ∧ yX4_isGoods.cls ≠ "java/lang/invoke/MethodHandle" ∧ yX4_isGoods.cls ≠ "java/lang/invoke/VarHandle" ∧ (parseMethodDescriptor yX4_isGoods.desc).map (fun d => d.parameters.length) = some 1 := by decide +kernel
set_option maxRecDepth 100000 in
set_option maxHeartbeats 4000000 in
theorem mX4_isGoods (l : Launch) (D : va_G) (B : nBT) (hB : nInj B) {k0 : Nat} (hk0 : nT k0) (x1 : Int32) (σ : nS) {r : Int32}  (h : fX4_isGoods k0 x1 σ = some r) : nMi l D B yX4_isGoods wsX4_isGoods rmX4_isGoods [.ref (na B k0), .int x1] σ r σ := by
  refine nmet (cc := cX4_isGoods) (maxL := 2) (ret := (some .boolean)) (own := RX4) (av := [.ref (na B k0), .int x1]) (nQi D B r σ) hB (by decide) rfl rfl (Nat.le_of_ble_eq_true rfl) (fun p e s m args below meth c C0 hr => ?_)
  have hh0 : ∀ w ∈ wsX40, w ∈ wsX4_isGoods := by decide +kernel
  have hh1 := C0.2.2.2.2.1 (Cond.fieldLink RX4 42 "NotInTheCoin$Town" "goods" "I") (by decide +kernel)
  refine nx_lv (lv' := [(0, .ref (na B k0)), (1, .int x1)]) [0, 1] rfl ?_
  rw [fX4_isGoods] at h
  refine nx_iload_n C0 1 dX4_isGoods_0 rfl ?_
  refine nx_if_lt (tgt := 16) C0 dX4_isGoods_1 (by decide) (fun q => ?_) (fun q => ?_)
  · have h := nift q h
    refine nx_iconst (v := 0) C0 dX4_isGoods_16 (by decide) ?_
    exact nr_z C0 hr (Or.inl rfl) dX4_isGoods_17 h
  · have h := niff q h
    refine nx_iload_n C0 1 dX4_isGoods_4 rfl ?_
    refine nx_aload_n C0 0 dX4_isGoods_5 rfl ?_
    refine nx_gX4_goods C0 hk0 hh0 hh1 dX4_isGoods_6 ?_
    refine nx_icmp_ge (tgt := 16) C0 dX4_isGoods_9 (by decide) (fun q => ?_) (fun q => ?_)
    · have h := nift q h
      refine nx_iconst (v := 0) C0 dX4_isGoods_16 (by decide) ?_
      exact nr_z C0 hr (Or.inl rfl) dX4_isGoods_17 h
    · have h := niff q h
      refine nx_iconst (v := 1) C0 dX4_isGoods_12 (by decide) ?_
      refine nx_goto (tgt := 17) C0 dX4_isGoods_13 (by decide) ?_
      exact nr_z C0 hr (Or.inr rfl) dX4_isGoods_17 h
def rmX4_isPerson : Room := { frames := 0, cells := 0, slots := 0, locals := 0 }
theorem ndX4_isPerson : yX4_isPerson.cls = RX4 ∧ yX4_isPerson.cls ≠ "java/lang/invoke/MethodHandle" ∧ yX4_isPerson.cls ≠ "java/lang/invoke/VarHandle" ∧ (parseMethodDescriptor yX4_isPerson.desc).map (fun d => d.parameters.length) = some 1 := by decide +kernel
set_option maxRecDepth 100000 in
set_option maxHeartbeats 4000000 in
theorem mX4_isPerson (l : Launch) (D : va_G) (B : nBT) (hB : nInj B) {k0 : Nat} (hk0 : nT k0) (x1 : Int32) (σ : nS) {r : Int32}  (h : fX4_isPerson k0 x1 σ = some r) : nMi l D B yX4_isPerson wsX4_isPerson rmX4_isPerson [.ref (na B k0), .int x1] σ r σ := by
  refine nmet (cc := cX4_isPerson) (maxL := 2) (ret := (some .boolean)) (own := RX4) (av := [.ref (na B k0), .int x1]) (nQi D B r σ) hB (by decide) rfl rfl (Nat.le_of_ble_eq_true rfl) (fun p e s m args below meth c C0 hr => ?_)
  have hh0 : ∀ w ∈ wsX40, w ∈ wsX4_isPerson := by decide +kernel
  have hh1 := C0.2.2.2.2.1 (Cond.fieldLink RX4 46 "NotInTheCoin$Town" "people" "I") (by decide +kernel)
  refine nx_lv (lv' := [(0, .ref (na B k0)), (1, .int x1)]) [0, 1] rfl ?_
  rw [fX4_isPerson] at h
  refine nx_iload_n C0 1 dX4_isPerson_0 rfl ?_
  refine nx_if_lt (tgt := 16) C0 dX4_isPerson_1 (by decide) (fun q => ?_) (fun q => ?_)
  · have h := nift q h
    refine nx_iconst (v := 0) C0 dX4_isPerson_16 (by decide) ?_
    exact nr_z C0 hr (Or.inl rfl) dX4_isPerson_17 h
  · have h := niff q h
    refine nx_iload_n C0 1 dX4_isPerson_4 rfl ?_
    refine nx_aload_n C0 0 dX4_isPerson_5 rfl ?_
    refine nx_gX4_people C0 hk0 hh0 hh1 dX4_isPerson_6 ?_
    refine nx_icmp_ge (tgt := 16) C0 dX4_isPerson_9 (by decide) (fun q => ?_) (fun q => ?_)
    · have h := nift q h
      refine nx_iconst (v := 0) C0 dX4_isPerson_16 (by decide) ?_
      exact nr_z C0 hr (Or.inl rfl) dX4_isPerson_17 h
    · have h := niff q h
      refine nx_iconst (v := 1) C0 dX4_isPerson_12 (by decide) ?_
      refine nx_goto (tgt := 17) C0 dX4_isPerson_13 (by decide) ?_
      exact nr_z C0 hr (Or.inr rfl) dX4_isPerson_17 h
def rmX4_isLoan : Room := { frames := 0, cells := 0, slots := 0, locals := 0 }
theorem ndX4_isLoan : yX4_isLoan.cls = RX4 ∧ yX4_isLoan.cls ≠ "java/lang/invoke/MethodHandle" ∧ yX4_isLoan.cls ≠ "java/lang/invoke/VarHandle" ∧ (parseMethodDescriptor yX4_isLoan.desc).map (fun d => d.parameters.length) = some 1 := by decide +kernel
set_option maxRecDepth 100000 in
set_option maxHeartbeats 4000000 in
theorem mX4_isLoan (l : Launch) (D : va_G) (B : nBT) (hB : nInj B) {k0 : Nat} (hk0 : nT k0) (x1 : Int32) (σ : nS) {r : Int32}  (h : fX4_isLoan k0 x1 σ = some r) : nMi l D B yX4_isLoan wsX4_isLoan rmX4_isLoan [.ref (na B k0), .int x1] σ r σ := by
  refine nmet (cc := cX4_isLoan) (maxL := 2) (ret := (some .boolean)) (own := RX4) (av := [.ref (na B k0), .int x1]) (nQi D B r σ) hB (by decide) rfl rfl (Nat.le_of_ble_eq_true rfl) (fun p e s m args below meth c C0 hr => ?_)
  have hh0 : ∀ w ∈ wsX40, w ∈ wsX4_isLoan := by decide +kernel
  have hh1 := C0.2.2.2.2.1 (Cond.fieldLink RX4 49 "NotInTheCoin$Town" "loans" "I") (by decide +kernel)
  refine nx_lv (lv' := [(0, .ref (na B k0)), (1, .int x1)]) [0, 1] rfl ?_
  rw [fX4_isLoan] at h
  refine nx_iload_n C0 1 dX4_isLoan_0 rfl ?_
  refine nx_if_lt (tgt := 16) C0 dX4_isLoan_1 (by decide) (fun q => ?_) (fun q => ?_)
  · have h := nift q h
    refine nx_iconst (v := 0) C0 dX4_isLoan_16 (by decide) ?_
    exact nr_z C0 hr (Or.inl rfl) dX4_isLoan_17 h
  · have h := niff q h
    refine nx_iload_n C0 1 dX4_isLoan_4 rfl ?_
    refine nx_aload_n C0 0 dX4_isLoan_5 rfl ?_
    refine nx_gX4_loans C0 hk0 hh0 hh1 dX4_isLoan_6 ?_
    refine nx_icmp_ge (tgt := 16) C0 dX4_isLoan_9 (by decide) (fun q => ?_) (fun q => ?_)
    · have h := nift q h
      refine nx_iconst (v := 0) C0 dX4_isLoan_16 (by decide) ?_
      exact nr_z C0 hr (Or.inl rfl) dX4_isLoan_17 h
    · have h := niff q h
      refine nx_iconst (v := 1) C0 dX4_isLoan_12 (by decide) ?_
      refine nx_goto (tgt := 17) C0 dX4_isLoan_13 (by decide) ?_
      exact nr_z C0 hr (Or.inr rfl) dX4_isLoan_17 h
def rmX4_addPerson : Room := { frames := 0, cells := 0, slots := 0, locals := 0 }
theorem ndX4_addPerson : yX4_addPerson.cls = RX4 ∧ yX4_addPerson.cls ≠ "java/lang/invoke/MethodHandle" ∧ yX4_addPerson.cls ≠ "java/lang/invoke/VarHandle" ∧ (parseMethodDescriptor yX4_addPerson.desc).map (fun d => d.parameters.length) = some 1 := by decide +kernel
set_option maxRecDepth 100000 in
set_option maxHeartbeats 4000000 in
theorem mX4_addPerson (l : Launch) (D : va_G) (B : nBT) (hB : nInj B) {k0 : Nat} (hk0 : nT k0) (x1 : Int32) (σ : nS) {r : Int32} {σ1 : nS} (h : fX4_addPerson k0 x1 σ = some (r, σ1)) : nMi l D B yX4_addPerson wsX4_addPerson rmX4_addPerson [.ref (na B k0), .int x1] σ r σ1 := by
  refine nmet (cc := cX4_addPerson) (maxL := 2) (ret := (some .int)) (own := RX4) (av := [.ref (na B k0), .int x1]) (nQi D B r σ1) hB (by decide) rfl rfl (Nat.le_of_ble_eq_true rfl) (fun p e s m args below meth c C0 hr => ?_)
  have hh0 : ∀ w ∈ wsX40, w ∈ wsX4_addPerson := by decide +kernel
  have hh1 := C0.2.2.2.2.1 (Cond.fieldLink RX4 46 "NotInTheCoin$Town" "people" "I") (by decide +kernel)
  have hh2 := C0.2.2.2.2.1 (Cond.fieldLink RX4 21 "NotInTheCoin$Town" "tasteOf" "[I") (by decide +kernel)
  refine nx_lv (lv' := [(0, .ref (na B k0)), (1, .int x1)]) [0, 1] rfl ?_
  rw [fX4_addPerson] at h
  refine nx_iload_n C0 1 dX4_addPerson_0 rfl ?_
  refine nx_if_lt (tgt := 10) C0 dX4_addPerson_1 (by decide) (fun q => ?_) (fun q => ?_)
  · have h := nift q h
    refine nx_iconst (v := -1) C0 dX4_addPerson_10 (by decide) ?_
    exact nr_i2 C0 hr dX4_addPerson_11 h
  · have h := niff q h
    refine nx_iload_n C0 1 dX4_addPerson_4 rfl ?_
    refine nx_bipush (v := 10) C0 dX4_addPerson_5 (by decide) ?_
    refine nx_icmp_lt (tgt := 12) C0 dX4_addPerson_7 (by decide) (fun q => ?_) (fun q => ?_)
    · have h := nift q h
      refine nx_aload_n C0 0 dX4_addPerson_12 rfl ?_
      refine nx_gX4_people C0 hk0 hh0 hh1 dX4_addPerson_13 ?_
      refine nx_bipush (v := 6) C0 dX4_addPerson_16 (by decide) ?_
      refine nx_icmp_lt (tgt := 24) C0 dX4_addPerson_18 (by decide) (fun q => ?_) (fun q => ?_)
      · have h := nift q h
        refine nx_aload_n C0 0 dX4_addPerson_24 rfl ?_
        refine nx_gX4_tasteOf C0 hk0 hh0 hh2 dX4_addPerson_25 ?_
        refine nx_aload_n C0 0 dX4_addPerson_28 rfl ?_
        refine nx_gX4_people C0 hk0 hh0 hh1 dX4_addPerson_29 ?_
        refine nx_iload_n C0 1 dX4_addPerson_32 rfl ?_
        obtain ⟨g1, h⟩ := nguard h
        obtain ⟨t2, et2, h⟩ := nlet h
        refine nx_iast C0 (nT_a4 hk0) g1 dX4_addPerson_33 et2 ?_
        refine nx_aload_n C0 0 dX4_addPerson_34 rfl ?_
        refine nx_dup C0 dX4_addPerson_35 rfl ?_
        refine nx_gX4_people C0 hk0 hh0 hh1 dX4_addPerson_36 ?_
        refine nx_iconst (v := 1) C0 dX4_addPerson_39 (by decide) ?_
        refine nx_iadd C0 dX4_addPerson_40 ?_
        obtain ⟨t3, et3, h⟩ := nlet h
        refine nx_pX4_people C0 hk0 hh0 hh1 dX4_addPerson_41 et3 ?_
        refine nx_aload_n C0 0 dX4_addPerson_44 rfl ?_
        refine nx_gX4_people C0 hk0 hh0 hh1 dX4_addPerson_45 ?_
        refine nx_iconst (v := 1) C0 dX4_addPerson_48 (by decide) ?_
        refine nx_isub C0 dX4_addPerson_49 ?_
        exact nr_i2 C0 hr dX4_addPerson_50 h
      · have h := niff q h
        refine nx_bipush (v := -2) C0 dX4_addPerson_21 (by decide) ?_
        exact nr_i2 C0 hr dX4_addPerson_23 h
    · have h := niff q h
      refine nx_iconst (v := -1) C0 dX4_addPerson_10 (by decide) ?_
      exact nr_i2 C0 hr dX4_addPerson_11 h
def rmX5_isKind : Room := { frames := 0, cells := 0, slots := 0, locals := 0 }
theorem ndX5_isKind : yX5_isKind.cls ≠ "java/lang/invoke/MethodHandle" ∧ yX5_isKind.cls ≠ "java/lang/invoke/VarHandle" ∧ (parseMethodDescriptor yX5_isKind.desc).map (fun d => d.parameters.length) = some 1 := by decide +kernel
set_option maxRecDepth 100000 in
set_option maxHeartbeats 4000000 in
theorem mX5_isKind (l : Launch) (D : va_G) (B : nBT) (hB : nInj B) (x0 : Int32) (σ : nS) {r : Int32}  (h : fX5_isKind x0 σ = some r) : nMi l D B yX5_isKind wsX5_isKind rmX5_isKind [.int x0] σ r σ := by
  refine nmet (cc := cX5_isKind) (maxL := 1) (ret := (some .boolean)) (own := RX5) (av := [.int x0]) (nQi D B r σ) hB (by decide) rfl rfl (Nat.le_of_ble_eq_true rfl) (fun p e s m args below meth c C0 hr => ?_)
  refine nx_lv (lv' := [(0, .int x0)]) [0] rfl ?_
  rw [fX5_isKind] at h
  refine nx_iload_n C0 0 dX5_isKind_0 rfl ?_
  refine nx_if_lt (tgt := 14) C0 dX5_isKind_1 (by decide) (fun q => ?_) (fun q => ?_)
  · have h := nift q h
    refine nx_iconst (v := 0) C0 dX5_isKind_14 (by decide) ?_
    exact nr_z C0 hr (Or.inl rfl) dX5_isKind_15 h
  · have h := niff q h
    refine nx_iload_n C0 0 dX5_isKind_4 rfl ?_
    refine nx_bipush (v := 7) C0 dX5_isKind_5 (by decide) ?_
    refine nx_icmp_gt (tgt := 14) C0 dX5_isKind_7 (by decide) (fun q => ?_) (fun q => ?_)
    · have h := nift q h
      refine nx_iconst (v := 0) C0 dX5_isKind_14 (by decide) ?_
      exact nr_z C0 hr (Or.inl rfl) dX5_isKind_15 h
    · have h := niff q h
      refine nx_iconst (v := 1) C0 dX5_isKind_10 (by decide) ?_
      refine nx_goto (tgt := 15) C0 dX5_isKind_11 (by decide) ?_
      exact nr_z C0 hr (Or.inr rfl) dX5_isKind_15 h
def rmX5_isFigure : Room := { frames := 0, cells := 0, slots := 0, locals := 0 }
theorem ndX5_isFigure : yX5_isFigure.cls ≠ "java/lang/invoke/MethodHandle" ∧ yX5_isFigure.cls ≠ "java/lang/invoke/VarHandle" ∧ (parseMethodDescriptor yX5_isFigure.desc).map (fun d => d.parameters.length) = some 1 := by decide +kernel
set_option maxRecDepth 100000 in
set_option maxHeartbeats 4000000 in
theorem mX5_isFigure (l : Launch) (D : va_G) (B : nBT) (hB : nInj B) (x0 : Int32) (σ : nS) {r : Int32}  (h : fX5_isFigure x0 σ = some r) : nMi l D B yX5_isFigure wsX5_isFigure rmX5_isFigure [.int x0] σ r σ := by
  refine nmet (cc := cX5_isFigure) (maxL := 1) (ret := (some .boolean)) (own := RX5) (av := [.int x0]) (nQi D B r σ) hB (by decide) rfl rfl (Nat.le_of_ble_eq_true rfl) (fun p e s m args below meth c C0 hr => ?_)
  refine nx_lv (lv' := [(0, .int x0)]) [0] rfl ?_
  rw [fX5_isFigure] at h
  refine nx_iload_n C0 0 dX5_isFigure_0 rfl ?_
  refine nx_if_lt (tgt := 14) C0 dX5_isFigure_1 (by decide) (fun q => ?_) (fun q => ?_)
  · have h := nift q h
    refine nx_iconst (v := 0) C0 dX5_isFigure_14 (by decide) ?_
    exact nr_z C0 hr (Or.inl rfl) dX5_isFigure_15 h
  · have h := niff q h
    refine nx_iload_n C0 0 dX5_isFigure_4 rfl ?_
    refine nx_bipush (v := 10) C0 dX5_isFigure_5 (by decide) ?_
    refine nx_icmp_ge (tgt := 14) C0 dX5_isFigure_7 (by decide) (fun q => ?_) (fun q => ?_)
    · have h := nift q h
      refine nx_iconst (v := 0) C0 dX5_isFigure_14 (by decide) ?_
      exact nr_z C0 hr (Or.inl rfl) dX5_isFigure_15 h
    · have h := niff q h
      refine nx_iconst (v := 1) C0 dX5_isFigure_10 (by decide) ?_
      refine nx_goto (tgt := 15) C0 dX5_isFigure_11 (by decide) ?_
      exact nr_z C0 hr (Or.inr rfl) dX5_isFigure_15 h
def rmX4_addGoods : Room := { frames := 1, cells := 0, slots := 0, locals := 21 }
theorem ndX4_addGoods : yX4_addGoods.cls = RX4 ∧ yX4_addGoods.cls ≠ "java/lang/invoke/MethodHandle" ∧ yX4_addGoods.cls ≠ "java/lang/invoke/VarHandle" ∧ (parseMethodDescriptor yX4_addGoods.desc).map (fun d => d.parameters.length) = some 3 := by decide +kernel
set_option maxRecDepth 100000 in
set_option maxHeartbeats 4000000 in
theorem mX4_addGoods (l : Launch) (D : va_G) (B : nBT) (hB : nInj B) {k0 : Nat} (hk0 : nT k0) (x1 : Int32) (x2 : Int32) (x3 : Int32) (σ : nS) {r : Int32} {σ1 : nS} (h : fX4_addGoods k0 x1 x2 x3 σ = some (r, σ1)) : nMi l D B yX4_addGoods wsX4_addGoods rmX4_addGoods [.ref (na B k0), .int x1, .int x2, .int x3] σ r σ1 := by
  refine nmet (cc := cX4_addGoods) (maxL := 4) (ret := (some .int)) (own := RX4) (av := [.ref (na B k0), .int x1, .int x2, .int x3]) (nQi D B r σ1) hB (by decide) rfl rfl (Nat.le_of_ble_eq_true rfl) (fun p e s m args below meth c C0 hr => ?_)
  have hh0 := C0.2.2.2.2.1 (Cond.static yX5_isKind) (by decide +kernel)
  have hh1 := C0.2.2.2.2.1 (Cond.initialized RX5) (by decide +kernel)
  have hh2 := C0.2.2.2.2.1 (Cond.static yX5_isFigure) (by decide +kernel)
  have hh3 : ∀ w ∈ wsX40, w ∈ wsX4_addGoods := by decide +kernel
  have hh4 := C0.2.2.2.2.1 (Cond.fieldLink RX4 42 "NotInTheCoin$Town" "goods" "I") (by decide +kernel)
  have hh5 := C0.2.2.2.2.1 (Cond.fieldLink RX4 9 "NotInTheCoin$Town" "kindOf" "[I") (by decide +kernel)
  have hh6 := C0.2.2.2.2.1 (Cond.fieldLink RX4 15 "NotInTheCoin$Town" "figureOf" "[I") (by decide +kernel)
  have hh7 := C0.2.2.2.2.1 (Cond.fieldLink RX4 18 "NotInTheCoin$Town" "ownerOf" "[I") (by decide +kernel)
  refine nx_lv (lv' := [(0, .ref (na B k0)), (1, .int x1), (2, .int x2), (3, .int x3)]) [0, 1, 2, 3] rfl ?_
  rw [fX4_addGoods] at h
  refine nx_iload_n C0 1 dX4_addGoods_0 rfl ?_
  obtain ⟨r2, c1, h⟩ := nbind h
  refine nx_cNi (n := 1) (As := [.int x1]) (st := []) C0 (mX5_isKind l D B hB x1 σ c1) gX4_addGoods_X5_isKind_n58 (by decide +kernel) hh0 hh1 rfl rfl rfl ndX5_isKind ⟨Nat.le_of_ble_eq_true rfl, Nat.le_of_ble_eq_true rfl⟩ rfl (Nat.le_of_ble_eq_true rfl) rfl dX4_addGoods_1 ?_
  refine nx_if_eq (tgt := 22) C0 dX4_addGoods_4 (by decide) (fun q => ?_) (fun q => ?_)
  · have h := nift q h
    refine nx_iconst (v := -1) C0 dX4_addGoods_22 (by decide) ?_
    exact nr_i2 C0 hr dX4_addGoods_23 h
  · have h := niff q h
    refine nx_iload_n C0 2 dX4_addGoods_7 rfl ?_
    obtain ⟨r4, c3, h⟩ := nbind h
    refine nx_cNi (n := 1) (As := [.int x2]) (st := []) C0 (mX5_isFigure l D B hB x2 σ c3) gX4_addGoods_X5_isFigure_n62 (by decide +kernel) hh2 hh1 rfl rfl rfl ndX5_isFigure ⟨Nat.le_of_ble_eq_true rfl, Nat.le_of_ble_eq_true rfl⟩ rfl (Nat.le_of_ble_eq_true rfl) rfl dX4_addGoods_8 ?_
    refine nx_if_eq (tgt := 22) C0 dX4_addGoods_11 (by decide) (fun q => ?_) (fun q => ?_)
    · have h := nift q h
      refine nx_iconst (v := -1) C0 dX4_addGoods_22 (by decide) ?_
      exact nr_i2 C0 hr dX4_addGoods_23 h
    · have h := niff q h
      refine nx_aload_n C0 0 dX4_addGoods_14 rfl ?_
      refine nx_iload_n C0 3 dX4_addGoods_15 rfl ?_
      obtain ⟨r6, c5, h⟩ := nbind h
      refine nx_cVi (ci := 4) (n := 1) (As := [.int x3]) (st := []) C0 (mX4_isPerson l D B hB hk0 x3 σ c5) gX4_addGoods_X4_isPerson rfl rfl rfl ndX4_isPerson ⟨Nat.le_of_ble_eq_true rfl, Nat.le_of_ble_eq_true rfl⟩ (by have := nT_lt hk0; omega) (nT_e hk0 _) rfl rfl rfl (Nat.le_of_ble_eq_true rfl) rfl dX4_addGoods_16 ?_
      refine nx_if_ne (tgt := 24) C0 dX4_addGoods_19 (by decide) (fun q => ?_) (fun q => ?_)
      · have h := niff q h
        refine nx_aload_n C0 0 dX4_addGoods_24 rfl ?_
        refine nx_gX4_goods C0 hk0 hh3 hh4 dX4_addGoods_25 ?_
        refine nx_bipush (v := 8) C0 dX4_addGoods_28 (by decide) ?_
        refine nx_icmp_lt (tgt := 36) C0 dX4_addGoods_30 (by decide) (fun q => ?_) (fun q => ?_)
        · have h := nift q h
          refine nx_aload_n C0 0 dX4_addGoods_36 rfl ?_
          refine nx_gX4_kindOf C0 hk0 hh3 hh5 dX4_addGoods_37 ?_
          refine nx_aload_n C0 0 dX4_addGoods_40 rfl ?_
          refine nx_gX4_goods C0 hk0 hh3 hh4 dX4_addGoods_41 ?_
          refine nx_iload_n C0 1 dX4_addGoods_44 rfl ?_
          obtain ⟨g7, h⟩ := nguard h
          obtain ⟨t8, et8, h⟩ := nlet h
          refine nx_iast C0 (nT_a1 hk0) g7 dX4_addGoods_45 et8 ?_
          refine nx_aload_n C0 0 dX4_addGoods_46 rfl ?_
          refine nx_gX4_figureOf C0 hk0 hh3 hh6 dX4_addGoods_47 ?_
          refine nx_aload_n C0 0 dX4_addGoods_50 rfl ?_
          refine nx_gX4_goods C0 hk0 hh3 hh4 dX4_addGoods_51 ?_
          refine nx_iload_n C0 2 dX4_addGoods_54 rfl ?_
          obtain ⟨g9, h⟩ := nguard h
          obtain ⟨t10, et10, h⟩ := nlet h
          refine nx_iast C0 (nT_a2 hk0) g9 dX4_addGoods_55 et10 ?_
          refine nx_aload_n C0 0 dX4_addGoods_56 rfl ?_
          refine nx_gX4_ownerOf C0 hk0 hh3 hh7 dX4_addGoods_57 ?_
          refine nx_aload_n C0 0 dX4_addGoods_60 rfl ?_
          refine nx_gX4_goods C0 hk0 hh3 hh4 dX4_addGoods_61 ?_
          refine nx_iload_n C0 3 dX4_addGoods_64 rfl ?_
          obtain ⟨g11, h⟩ := nguard h
          obtain ⟨t12, et12, h⟩ := nlet h
          refine nx_iast C0 (nT_a3 hk0) g11 dX4_addGoods_65 et12 ?_
          refine nx_aload_n C0 0 dX4_addGoods_66 rfl ?_
          refine nx_dup C0 dX4_addGoods_67 rfl ?_
          refine nx_gX4_goods C0 hk0 hh3 hh4 dX4_addGoods_68 ?_
          refine nx_iconst (v := 1) C0 dX4_addGoods_71 (by decide) ?_
          refine nx_iadd C0 dX4_addGoods_72 ?_
          obtain ⟨t13, et13, h⟩ := nlet h
          refine nx_pX4_goods C0 hk0 hh3 hh4 dX4_addGoods_73 et13 ?_
          refine nx_aload_n C0 0 dX4_addGoods_76 rfl ?_
          refine nx_gX4_goods C0 hk0 hh3 hh4 dX4_addGoods_77 ?_
          refine nx_iconst (v := 1) C0 dX4_addGoods_80 (by decide) ?_
          refine nx_isub C0 dX4_addGoods_81 ?_
          exact nr_i2 C0 hr dX4_addGoods_82 h
        · have h := niff q h
          refine nx_bipush (v := -2) C0 dX4_addGoods_33 (by decide) ?_
          exact nr_i2 C0 hr dX4_addGoods_35 h
      · have h := nift q h
        refine nx_iconst (v := -1) C0 dX4_addGoods_22 (by decide) ?_
        exact nr_i2 C0 hr dX4_addGoods_23 h
def rmX4_addLoan : Room := { frames := 1, cells := 0, slots := 0, locals := 21 }
theorem ndX4_addLoan : yX4_addLoan.cls = RX4 ∧ yX4_addLoan.cls ≠ "java/lang/invoke/MethodHandle" ∧ yX4_addLoan.cls ≠ "java/lang/invoke/VarHandle" ∧ (parseMethodDescriptor yX4_addLoan.desc).map (fun d => d.parameters.length) = some 2 := by decide +kernel
set_option maxRecDepth 100000 in
set_option maxHeartbeats 4000000 in
theorem mX4_addLoan (l : Launch) (D : va_G) (B : nBT) (hB : nInj B) {k0 : Nat} (hk0 : nT k0) (x1 : Int32) (x2 : Int32) (σ : nS) {r : Int32} {σ1 : nS} (h : fX4_addLoan k0 x1 x2 σ = some (r, σ1)) : nMi l D B yX4_addLoan wsX4_addLoan rmX4_addLoan [.ref (na B k0), .int x1, .int x2] σ r σ1 := by
  refine nmet (cc := cX4_addLoan) (maxL := 3) (ret := (some .int)) (own := RX4) (av := [.ref (na B k0), .int x1, .int x2]) (nQi D B r σ1) hB (by decide) rfl rfl (Nat.le_of_ble_eq_true rfl) (fun p e s m args below meth c C0 hr => ?_)
  have hh0 : ∀ w ∈ wsX40, w ∈ wsX4_addLoan := by decide +kernel
  have hh1 := C0.2.2.2.2.1 (Cond.fieldLink RX4 18 "NotInTheCoin$Town" "ownerOf" "[I") (by decide +kernel)
  have hh2 := C0.2.2.2.2.1 (Cond.fieldLink RX4 49 "NotInTheCoin$Town" "loans" "I") (by decide +kernel)
  have hh3 := C0.2.2.2.2.1 (Cond.fieldLink RX4 24 "NotInTheCoin$Town" "lenderOf" "[I") (by decide +kernel)
  have hh4 := C0.2.2.2.2.1 (Cond.fieldLink RX4 27 "NotInTheCoin$Town" "debtorOf" "[I") (by decide +kernel)
  have hh5 := C0.2.2.2.2.1 (Cond.fieldLink RX4 30 "NotInTheCoin$Town" "goodsOf" "[I") (by decide +kernel)
  have hh6 := C0.2.2.2.2.1 (Cond.fieldLink RX4 52 "NotInTheCoin$Town" "open" "I") (by decide +kernel)
  refine nx_lv (lv' := [(0, .ref (na B k0)), (1, .int x1), (2, .int x2)]) [0, 1, 2] rfl ?_
  rw [fX4_addLoan] at h
  refine nx_aload_n C0 0 dX4_addLoan_0 rfl ?_
  refine nx_iload_n C0 1 dX4_addLoan_1 rfl ?_
  obtain ⟨r2, c1, h⟩ := nbind h
  refine nx_cVi (ci := 4) (n := 1) (As := [.int x1]) (st := []) C0 (mX4_isGoods l D B hB hk0 x1 σ c1) gX4_addLoan_X4_isGoods rfl rfl rfl ndX4_isGoods ⟨Nat.le_of_ble_eq_true rfl, Nat.le_of_ble_eq_true rfl⟩ (by have := nT_lt hk0; omega) (nT_e hk0 _) rfl rfl rfl (Nat.le_of_ble_eq_true rfl) rfl dX4_addLoan_2 ?_
  refine nx_if_eq (tgt := 16) C0 dX4_addLoan_5 (by decide) (fun q => ?_) (fun q => ?_)
  · have h := nift q h
    refine nx_iconst (v := -1) C0 dX4_addLoan_16 (by decide) ?_
    exact nr_i2 C0 hr dX4_addLoan_17 h
  · have h := niff q h
    refine nx_aload_n C0 0 dX4_addLoan_8 rfl ?_
    refine nx_iload_n C0 2 dX4_addLoan_9 rfl ?_
    obtain ⟨r4, c3, h⟩ := nbind h
    refine nx_cVi (ci := 4) (n := 1) (As := [.int x2]) (st := []) C0 (mX4_isPerson l D B hB hk0 x2 σ c3) gX4_addLoan_X4_isPerson rfl rfl rfl ndX4_isPerson ⟨Nat.le_of_ble_eq_true rfl, Nat.le_of_ble_eq_true rfl⟩ (by have := nT_lt hk0; omega) (nT_e hk0 _) rfl rfl rfl (Nat.le_of_ble_eq_true rfl) rfl dX4_addLoan_10 ?_
    refine nx_if_ne (tgt := 18) C0 dX4_addLoan_13 (by decide) (fun q => ?_) (fun q => ?_)
    · have h := niff q h
      refine nx_aload_n C0 0 dX4_addLoan_18 rfl ?_
      refine nx_gX4_ownerOf C0 hk0 hh0 hh1 dX4_addLoan_19 ?_
      refine nx_iload_n C0 1 dX4_addLoan_22 rfl ?_
      obtain ⟨g5, h⟩ := nguard h
      refine nx_iald C0 (nT_a3 hk0) g5 dX4_addLoan_23 ?_
      refine nx_iload_n C0 2 dX4_addLoan_24 rfl ?_
      refine nx_icmp_ne (tgt := 31) C0 dX4_addLoan_25 (by decide) (fun q => ?_) (fun q => ?_)
      · have h := niff q h
        refine nx_aload_n C0 0 dX4_addLoan_31 rfl ?_
        refine nx_gX4_loans C0 hk0 hh0 hh2 dX4_addLoan_32 ?_
        refine nx_bipush (v := 8) C0 dX4_addLoan_35 (by decide) ?_
        refine nx_icmp_lt (tgt := 43) C0 dX4_addLoan_37 (by decide) (fun q => ?_) (fun q => ?_)
        · have h := nift q h
          refine nx_aload_n C0 0 dX4_addLoan_43 rfl ?_
          refine nx_gX4_lenderOf C0 hk0 hh0 hh3 dX4_addLoan_44 ?_
          refine nx_aload_n C0 0 dX4_addLoan_47 rfl ?_
          refine nx_gX4_loans C0 hk0 hh0 hh2 dX4_addLoan_48 ?_
          refine nx_aload_n C0 0 dX4_addLoan_51 rfl ?_
          refine nx_gX4_ownerOf C0 hk0 hh0 hh1 dX4_addLoan_52 ?_
          refine nx_iload_n C0 1 dX4_addLoan_55 rfl ?_
          obtain ⟨g6, h⟩ := nguard h
          refine nx_iald C0 (nT_a3 hk0) g6 dX4_addLoan_56 ?_
          obtain ⟨g7, h⟩ := nguard h
          obtain ⟨t8, et8, h⟩ := nlet h
          refine nx_iast C0 (nT_a5 hk0) g7 dX4_addLoan_57 et8 ?_
          refine nx_aload_n C0 0 dX4_addLoan_58 rfl ?_
          refine nx_gX4_debtorOf C0 hk0 hh0 hh4 dX4_addLoan_59 ?_
          refine nx_aload_n C0 0 dX4_addLoan_62 rfl ?_
          refine nx_gX4_loans C0 hk0 hh0 hh2 dX4_addLoan_63 ?_
          refine nx_iload_n C0 2 dX4_addLoan_66 rfl ?_
          obtain ⟨g9, h⟩ := nguard h
          obtain ⟨t10, et10, h⟩ := nlet h
          refine nx_iast C0 (nT_a6 hk0) g9 dX4_addLoan_67 et10 ?_
          refine nx_aload_n C0 0 dX4_addLoan_68 rfl ?_
          refine nx_gX4_goodsOf C0 hk0 hh0 hh5 dX4_addLoan_69 ?_
          refine nx_aload_n C0 0 dX4_addLoan_72 rfl ?_
          refine nx_gX4_loans C0 hk0 hh0 hh2 dX4_addLoan_73 ?_
          refine nx_iload_n C0 1 dX4_addLoan_76 rfl ?_
          obtain ⟨g11, h⟩ := nguard h
          obtain ⟨t12, et12, h⟩ := nlet h
          refine nx_iast C0 (nT_a7 hk0) g11 dX4_addLoan_77 et12 ?_
          refine nx_aload_n C0 0 dX4_addLoan_78 rfl ?_
          refine nx_dup C0 dX4_addLoan_79 rfl ?_
          refine nx_gX4_open C0 hk0 hh0 hh6 dX4_addLoan_80 ?_
          refine nx_iconst (v := 1) C0 dX4_addLoan_83 (by decide) ?_
          refine nx_aload_n C0 0 dX4_addLoan_84 rfl ?_
          refine nx_gX4_loans C0 hk0 hh0 hh2 dX4_addLoan_85 ?_
          refine nx_ishl C0 dX4_addLoan_88 ?_
          refine nx_ior C0 dX4_addLoan_89 ?_
          obtain ⟨t13, et13, h⟩ := nlet h
          refine nx_pX4_open C0 hk0 hh0 hh6 dX4_addLoan_90 et13 ?_
          refine nx_aload_n C0 0 dX4_addLoan_93 rfl ?_
          refine nx_gX4_ownerOf C0 hk0 hh0 hh1 dX4_addLoan_94 ?_
          refine nx_iload_n C0 1 dX4_addLoan_97 rfl ?_
          refine nx_iload_n C0 2 dX4_addLoan_98 rfl ?_
          obtain ⟨g14, h⟩ := nguard h
          obtain ⟨t15, et15, h⟩ := nlet h
          refine nx_iast C0 (nT_a3 hk0) g14 dX4_addLoan_99 et15 ?_
          refine nx_aload_n C0 0 dX4_addLoan_100 rfl ?_
          refine nx_dup C0 dX4_addLoan_101 rfl ?_
          refine nx_gX4_loans C0 hk0 hh0 hh2 dX4_addLoan_102 ?_
          refine nx_iconst (v := 1) C0 dX4_addLoan_105 (by decide) ?_
          refine nx_iadd C0 dX4_addLoan_106 ?_
          obtain ⟨t16, et16, h⟩ := nlet h
          refine nx_pX4_loans C0 hk0 hh0 hh2 dX4_addLoan_107 et16 ?_
          refine nx_aload_n C0 0 dX4_addLoan_110 rfl ?_
          refine nx_gX4_loans C0 hk0 hh0 hh2 dX4_addLoan_111 ?_
          refine nx_iconst (v := 1) C0 dX4_addLoan_114 (by decide) ?_
          refine nx_isub C0 dX4_addLoan_115 ?_
          exact nr_i2 C0 hr dX4_addLoan_116 h
        · have h := niff q h
          refine nx_bipush (v := -2) C0 dX4_addLoan_40 (by decide) ?_
          exact nr_i2 C0 hr dX4_addLoan_42 h
      · have h := nift q h
        refine nx_bipush (v := -3) C0 dX4_addLoan_28 (by decide) ?_
        exact nr_i2 C0 hr dX4_addLoan_30 h
    · have h := nift q h
      refine nx_iconst (v := -1) C0 dX4_addLoan_16 (by decide) ?_
      exact nr_i2 C0 hr dX4_addLoan_17 h
def rmX4_liken : Room := { frames := 1, cells := 0, slots := 0, locals := 20 }
theorem ndX4_liken : yX4_liken.cls = RX4 ∧ yX4_liken.cls ≠ "java/lang/invoke/MethodHandle" ∧ yX4_liken.cls ≠ "java/lang/invoke/VarHandle" ∧ (parseMethodDescriptor yX4_liken.desc).map (fun d => d.parameters.length) = some 2 := by decide +kernel
set_option maxRecDepth 100000 in
set_option maxHeartbeats 4000000 in
theorem mX4_liken (l : Launch) (D : va_G) (B : nBT) (hB : nInj B) {k0 : Nat} (hk0 : nT k0) (x1 : Int32) (x2 : Int32) (σ : nS) {r : Int32} {σ1 : nS} (h : fX4_liken k0 x1 x2 σ = some (r, σ1)) : nMi l D B yX4_liken wsX4_liken rmX4_liken [.ref (na B k0), .int x1, .int x2] σ r σ1 := by
  refine nmet (cc := cX4_liken) (maxL := 4) (ret := (some .int)) (own := RX4) (av := [.ref (na B k0), .int x1, .int x2]) (nQi D B r σ1) hB (by decide) rfl rfl (Nat.le_of_ble_eq_true rfl) (fun p e s m args below meth c C0 hr => ?_)
  have hh0 := C0.2.2.2.2.1 (Cond.static yX5_isKind) (by decide +kernel)
  have hh1 := C0.2.2.2.2.1 (Cond.initialized RX5) (by decide +kernel)
  have hh2 : ∀ w ∈ wsX40, w ∈ wsX4_liken := by decide +kernel
  have hh3 := C0.2.2.2.2.1 (Cond.fieldLink RX4 33 "NotInTheCoin$Town" "classOf" "[I") (by decide +kernel)
  refine nx_lv (lv' := [(0, .ref (na B k0)), (1, .int x1), (2, .int x2)]) [0, 1, 2] rfl ?_
  rw [fX4_liken] at h
  refine nx_iload_n C0 1 dX4_liken_0 rfl ?_
  obtain ⟨r2, c1, h⟩ := nbind h
  refine nx_cNi (n := 1) (As := [.int x1]) (st := []) C0 (mX5_isKind l D B hB x1 σ c1) gX4_liken_X5_isKind_n58 (by decide +kernel) hh0 hh1 rfl rfl rfl ndX5_isKind ⟨Nat.le_of_ble_eq_true rfl, Nat.le_of_ble_eq_true rfl⟩ rfl (Nat.le_of_ble_eq_true rfl) rfl dX4_liken_1 ?_
  refine nx_if_eq (tgt := 14) C0 dX4_liken_4 (by decide) (fun q => ?_) (fun q => ?_)
  · have h := nift q h
    refine nx_iconst (v := -1) C0 dX4_liken_14 (by decide) ?_
    exact nr_i2 C0 hr dX4_liken_15 h
  · have h := niff q h
    refine nx_iload_n C0 2 dX4_liken_7 rfl ?_
    obtain ⟨r4, c3, h⟩ := nbind h
    refine nx_cNi (n := 1) (As := [.int x2]) (st := []) C0 (mX5_isKind l D B hB x2 σ c3) gX4_liken_X5_isKind_n58 (by decide +kernel) hh0 hh1 rfl rfl rfl ndX5_isKind ⟨Nat.le_of_ble_eq_true rfl, Nat.le_of_ble_eq_true rfl⟩ rfl (Nat.le_of_ble_eq_true rfl) rfl dX4_liken_8 ?_
    refine nx_if_ne (tgt := 16) C0 dX4_liken_11 (by decide) (fun q => ?_) (fun q => ?_)
    · have h := niff q h
      refine nx_aload_n C0 0 dX4_liken_16 rfl ?_
      refine nx_gX4_classOf C0 hk0 hh2 hh3 dX4_liken_17 ?_
      refine nx_iload_n C0 2 dX4_liken_20 rfl ?_
      obtain ⟨g5, h⟩ := nguard h
      refine nx_iald C0 (nT_a8 hk0) g5 dX4_liken_21 ?_
      obtain ⟨v6, ev6, h⟩ := nlet h
      refine nx_istore_n (i := 3) (y := v6) (lv' := [(3, .int v6), (0, .ref (na B k0)), (1, .int x1), (2, .int x2)]) C0 dX4_liken_22 rfl (by decide) ev6 rfl ?_
      refine nx_aload_n C0 1 dX4_liken_23 rfl ?_
      refine nx_gX4_classOf C0 hk0 hh2 hh3 dX4_liken_24 ?_
      refine nx_iload_n C0 3 dX4_liken_27 rfl ?_
      refine nx_aload_n C0 1 dX4_liken_28 rfl ?_
      refine nx_gX4_classOf C0 hk0 hh2 hh3 dX4_liken_29 ?_
      refine nx_iload_n C0 2 dX4_liken_32 rfl ?_
      obtain ⟨g7, h⟩ := nguard h
      refine nx_iald C0 (nT_a8 hk0) g7 dX4_liken_33 ?_
      obtain ⟨g8, h⟩ := nguard h
      obtain ⟨t9, et9, h⟩ := nlet h
      refine nx_iast C0 (nT_a8 hk0) g8 dX4_liken_34 et9 ?_
      refine nx_iload_n C0 0 dX4_liken_35 rfl ?_
      exact nr_i2 C0 hr dX4_liken_36 h
    · have h := nift q h
      refine nx_iconst (v := -1) C0 dX4_liken_14 (by decide) ?_
      exact nr_i2 C0 hr dX4_liken_15 h
def rmX4_worthTo : Room := { frames := 1, cells := 0, slots := 0, locals := 28 }
theorem ndX4_worthTo : yX4_worthTo.cls = RX4 ∧ yX4_worthTo.cls ≠ "java/lang/invoke/MethodHandle" ∧ yX4_worthTo.cls ≠ "java/lang/invoke/VarHandle" ∧ (parseMethodDescriptor yX4_worthTo.desc).map (fun d => d.parameters.length) = some 2 := by decide +kernel
set_option maxRecDepth 100000 in
set_option maxHeartbeats 4000000 in
theorem mX4_worthTo (l : Launch) (D : va_G) (B : nBT) (hB : nInj B) {k0 : Nat} (hk0 : nT k0) (x1 : Int32) (x2 : Int32) (σ : nS) {r : Int32}  (h : fX4_worthTo k0 x1 x2 σ = some r) : nMi l D B yX4_worthTo wsX4_worthTo rmX4_worthTo [.ref (na B k0), .int x1, .int x2] σ r σ := by
  refine nmet (cc := cX4_worthTo) (maxL := 3) (ret := (some .int)) (own := RX4) (av := [.ref (na B k0), .int x1, .int x2]) (nQi D B r σ) hB (by decide) rfl rfl (Nat.le_of_ble_eq_true rfl) (fun p e s m args below meth c C0 hr => ?_)
  have hh0 : ∀ w ∈ wsX40, w ∈ wsX4_worthTo := by decide +kernel
  have hh1 := C0.2.2.2.2.1 (Cond.fieldLink RX4 9 "NotInTheCoin$Town" "kindOf" "[I") (by decide +kernel)
  have hh2 := C0.2.2.2.2.1 (Cond.fieldLink RX4 15 "NotInTheCoin$Town" "figureOf" "[I") (by decide +kernel)
  have hh3 := C0.2.2.2.2.1 (Cond.fieldLink RX4 21 "NotInTheCoin$Town" "tasteOf" "[I") (by decide +kernel)
  have hh4 := C0.2.2.2.2.1 (Cond.fieldLink RX4 55 "NotInTheCoin$Town" "week" "I") (by decide +kernel)
  have hh5 := C0.2.2.2.2.1 (Cond.static yX5_worthOf) (by decide +kernel)
  have hh6 := C0.2.2.2.2.1 (Cond.initialized RX5) (by decide +kernel)
  refine nx_lv (lv' := [(0, .ref (na B k0)), (1, .int x1), (2, .int x2)]) [0, 1, 2] rfl ?_
  rw [fX4_worthTo] at h
  refine nx_aload_n C0 0 dX4_worthTo_0 rfl ?_
  refine nx_gX4_kindOf C0 hk0 hh0 hh1 dX4_worthTo_1 ?_
  refine nx_iload_n C0 2 dX4_worthTo_4 rfl ?_
  obtain ⟨g1, h⟩ := nguard h
  refine nx_iald C0 (nT_a1 hk0) g1 dX4_worthTo_5 ?_
  refine nx_aload_n C0 0 dX4_worthTo_6 rfl ?_
  refine nx_gX4_figureOf C0 hk0 hh0 hh2 dX4_worthTo_7 ?_
  refine nx_iload_n C0 2 dX4_worthTo_10 rfl ?_
  obtain ⟨g2, h⟩ := nguard h
  refine nx_iald C0 (nT_a2 hk0) g2 dX4_worthTo_11 ?_
  refine nx_aload_n C0 0 dX4_worthTo_12 rfl ?_
  refine nx_gX4_tasteOf C0 hk0 hh0 hh3 dX4_worthTo_13 ?_
  refine nx_iload_n C0 1 dX4_worthTo_16 rfl ?_
  obtain ⟨g3, h⟩ := nguard h
  refine nx_iald C0 (nT_a4 hk0) g3 dX4_worthTo_17 ?_
  refine nx_aload_n C0 0 dX4_worthTo_18 rfl ?_
  refine nx_gX4_week C0 hk0 hh0 hh4 dX4_worthTo_19 ?_
  obtain ⟨r5, c4, h⟩ := nbind h
  refine nx_cNi (n := 4) (As := [.int (σ (k0 + 1) (x2).toNatClampNeg), .int (σ (k0 + 2) (x2).toNatClampNeg), .int (σ (k0 + 4) (x1).toNatClampNeg), .int (σ k0 12)]) (st := []) C0 (mX5_worthOf l D B hB (σ (k0 + 1) (x2).toNatClampNeg) (σ (k0 + 2) (x2).toNatClampNeg) (σ (k0 + 4) (x1).toNatClampNeg) (σ k0 12) σ c4) gX4_worthTo_X5_worthOf_n91 (by decide +kernel) hh5 hh6 rfl rfl rfl ndX5_worthOf ⟨Nat.le_of_ble_eq_true rfl, Nat.le_of_ble_eq_true rfl⟩ rfl (Nat.le_of_ble_eq_true rfl) rfl dX4_worthTo_22 ?_
  exact nr_i C0 hr dX4_worthTo_25 h
def rmX4_choice : Room := { frames := 2, cells := 0, slots := 0, locals := 50 }
theorem ndX4_choice : yX4_choice.cls = RX4 ∧ yX4_choice.cls ≠ "java/lang/invoke/MethodHandle" ∧ yX4_choice.cls ≠ "java/lang/invoke/VarHandle" ∧ (parseMethodDescriptor yX4_choice.desc).map (fun d => d.parameters.length) = some 3 := by decide +kernel
set_option maxRecDepth 100000 in
set_option maxHeartbeats 4000000 in
theorem mX4_choice (l : Launch) (D : va_G) (B : nBT) (hB : nInj B) {k0 : Nat} (hk0 : nT k0) (x1 : Int32) (x2 : Int32) (x3 : Int32) (σ : nS) {r : Int32}  (h : fX4_choice k0 x1 x2 x3 σ = some r) : nMi l D B yX4_choice wsX4_choice rmX4_choice [.ref (na B k0), .int x1, .int x2, .int x3] σ r σ := by
  refine nmet (cc := cX4_choice) (maxL := 8) (ret := (some .int)) (own := RX4) (av := [.ref (na B k0), .int x1, .int x2, .int x3]) (nQi D B r σ) hB (by decide) rfl rfl (Nat.le_of_ble_eq_true rfl) (fun p e s m args below meth c C0 hr => ?_)
  have hh0 : ∀ w ∈ wsX40, w ∈ wsX4_choice := by decide +kernel
  have hh1 := C0.2.2.2.2.1 (Cond.fieldLink RX4 42 "NotInTheCoin$Town" "goods" "I") (by decide +kernel)
  have hh2 := C0.2.2.2.2.1 (Cond.static yX5_has) (by decide +kernel)
  have hh3 := C0.2.2.2.2.1 (Cond.initialized RX5) (by decide +kernel)
  have hfX4_choice_b10 : ∀  (n : Nat) (k_0 : Nat) (hk_0 : nT k_0) (a1 : Int32) (a2 : Int32) (a3 : Int32) (a4 : Int32) (a5 : Int32) (a6 : Int32) (h : fX4_choice_b10  n k_0 a1 a2 a3 a4 a5 a6 σ = some r), nJ p l e rmX4_choice s m args below meth c 0 0 (MQ below (nQi D B r σ s.heap.size) args s 0 0 (nA B s.heap.size)) D B 8 10 [(0, .ref (na B k_0)), (1, .int a1), (2, .int a2), (3, .int a3), (4, .int a4), (5, .int a5), (6, .int a6)] [] σ := by
    intro  n
    induction n with
    | zero => intro k_0 hk_0 a1 a2 a3 a4 a5 a6 h; cases h
    | succ n ih =>
        intro k_0 hk_0 a1 a2 a3 a4 a5 a6 h
        rw [fX4_choice_b10] at h
        refine nx_iload C0 6 dX4_choice_10 rfl ?_
        refine nx_aload_n C0 0 dX4_choice_12 rfl ?_
        refine nx_gX4_goods C0 hk_0 hh0 hh1 dX4_choice_13 ?_
        refine nx_icmp_ge (tgt := 65) C0 dX4_choice_16 (by decide) (fun q => ?_) (fun q => ?_)
        · have h := nift q h
          refine nx_iload C0 4 dX4_choice_65 rfl ?_
          exact nr_i C0 hr dX4_choice_67 h
        · have h := niff q h
          refine nx_iload_n C0 3 dX4_choice_19 rfl ?_
          refine nx_aload_n C0 0 dX4_choice_20 rfl ?_
          refine nx_iload_n C0 1 dX4_choice_21 rfl ?_
          refine nx_iload C0 6 dX4_choice_22 rfl ?_
          obtain ⟨r2, c1, h⟩ := nbind h
          refine nx_cVi (ci := 4) (n := 2) (As := [.int a1, .int a6]) (st := [.int a3]) C0 (mX4_worthTo l D B hB hk_0 a1 a6 σ c1) gX4_choice_X4_worthTo rfl rfl rfl ndX4_worthTo ⟨Nat.le_of_ble_eq_true rfl, Nat.le_of_ble_eq_true rfl⟩ (by have := nT_lt hk_0; omega) (nT_e hk_0 _) rfl rfl rfl (Nat.le_of_ble_eq_true rfl) rfl dX4_choice_24 ?_
          refine nx_imul C0 dX4_choice_27 ?_
          obtain ⟨v3, ev3, h⟩ := nlet h
          refine nx_istore (i := 7) (y := v3) (lv' := [(7, .int v3), (0, .ref (na B k_0)), (1, .int a1), (2, .int a2), (3, .int a3), (4, .int a4), (5, .int a5), (6, .int a6)]) C0 dX4_choice_28 (by decide) ev3 rfl ?_
          refine nx_iload_n C0 3 dX4_choice_30 rfl ?_
          refine nx_iload C0 7 dX4_choice_31 rfl ?_
          obtain ⟨r5, c4, h⟩ := nbind h
          refine nx_cNi (n := 2) (As := [.int a2, .int a6]) (st := []) C0 (mX5_has l D B hB a2 a6 σ c4) gX4_choice_X5_has_n99 (by decide +kernel) hh2 hh3 rfl rfl rfl ndX5_has ⟨Nat.le_of_ble_eq_true rfl, Nat.le_of_ble_eq_true rfl⟩ rfl (Nat.le_of_ble_eq_true rfl) rfl dX4_choice_33 ?_
          refine nx_if_eq (tgt := 59) C0 dX4_choice_36 (by decide) (fun q => ?_) (fun q => ?_)
          · have h := nift q h
            obtain ⟨v6, ev6, h⟩ := nlet h
            refine nx_iinc (v := v6) (lv' := [(6, .int v6), (7, .int v3), (0, .ref (na B k_0)), (1, .int a1), (2, .int a2), (3, .int a3), (4, .int a4), (5, .int a5)]) C0 7 dX4_choice_59 rfl ev6 (by decide) rfl ?_
            refine nx_goto (tgt := 10) C0 dX4_choice_62 (by decide) ?_
            refine nx_lv (lv' := [(0, .ref (na B k_0)), (1, .int a1), (2, .int a2), (3, .int a3), (4, .int a4), (5, .int a5), (6, .int v6)]) [2, 3, 4, 5, 6, 7, 0] rfl ?_
            exact ih k_0 hk_0 a1 a2 a3 a4 a5 v6 h
          · have h := niff q h
            refine nx_iload C0 5 dX4_choice_39 rfl ?_
            refine nx_if_lt (tgt := 51) C0 dX4_choice_41 (by decide) (fun q => ?_) (fun q => ?_)
            · have h := nift q h
              refine nx_iload C0 7 dX4_choice_51 rfl ?_
              refine nx_istore (i := 4) (y := a6) (lv' := [(4, .int a6), (7, .int v3), (0, .ref (na B k_0)), (1, .int a1), (2, .int a2), (3, .int a3), (5, .int a5), (6, .int a6)]) C0 dX4_choice_53 (by decide) rfl rfl ?_
              refine nx_iload C0 1 dX4_choice_55 rfl ?_
              refine nx_istore (i := 5) (y := v3) (lv' := [(5, .int v3), (4, .int a6), (7, .int v3), (0, .ref (na B k_0)), (1, .int a1), (2, .int a2), (3, .int a3), (6, .int a6)]) C0 dX4_choice_57 (by decide) rfl rfl ?_
              obtain ⟨v7, ev7, h⟩ := nlet h
              refine nx_iinc (v := v7) (lv' := [(6, .int v7), (5, .int v3), (4, .int a6), (7, .int v3), (0, .ref (na B k_0)), (1, .int a1), (2, .int a2), (3, .int a3)]) C0 7 dX4_choice_59 rfl ev7 (by decide) rfl ?_
              refine nx_goto (tgt := 10) C0 dX4_choice_62 (by decide) ?_
              refine nx_lv (lv' := [(0, .ref (na B k_0)), (1, .int a1), (2, .int a2), (3, .int a3), (4, .int a6), (5, .int v3), (6, .int v7)]) [4, 5, 6, 7, 2, 1, 0] rfl ?_
              exact ih k_0 hk_0 a1 a2 a3 a6 v3 v7 h
            · have h := niff q h
              refine nx_iload C0 0 dX4_choice_44 rfl ?_
              refine nx_iload C0 6 dX4_choice_46 rfl ?_
              refine nx_icmp_le (tgt := 59) C0 dX4_choice_48 (by decide) (fun q => ?_) (fun q => ?_)
              · have h := nift q h
                obtain ⟨v8, ev8, h⟩ := nlet h
                refine nx_iinc (v := v8) (lv' := [(6, .int v8), (7, .int v3), (0, .ref (na B k_0)), (1, .int a1), (2, .int a2), (3, .int a3), (4, .int a4), (5, .int a5)]) C0 7 dX4_choice_59 rfl ev8 (by decide) rfl ?_
                refine nx_goto (tgt := 10) C0 dX4_choice_62 (by decide) ?_
                refine nx_lv (lv' := [(0, .ref (na B k_0)), (1, .int a1), (2, .int a2), (3, .int a3), (4, .int a4), (5, .int a5), (6, .int v8)]) [2, 3, 4, 5, 6, 7, 0] rfl ?_
                exact ih k_0 hk_0 a1 a2 a3 a4 a5 v8 h
              · have h := niff q h
                refine nx_iload C0 7 dX4_choice_51 rfl ?_
                refine nx_istore (i := 4) (y := a6) (lv' := [(4, .int a6), (7, .int v3), (0, .ref (na B k_0)), (1, .int a1), (2, .int a2), (3, .int a3), (5, .int a5), (6, .int a6)]) C0 dX4_choice_53 (by decide) rfl rfl ?_
                refine nx_iload C0 1 dX4_choice_55 rfl ?_
                refine nx_istore (i := 5) (y := v3) (lv' := [(5, .int v3), (4, .int a6), (7, .int v3), (0, .ref (na B k_0)), (1, .int a1), (2, .int a2), (3, .int a3), (6, .int a6)]) C0 dX4_choice_57 (by decide) rfl rfl ?_
                obtain ⟨v9, ev9, h⟩ := nlet h
                refine nx_iinc (v := v9) (lv' := [(6, .int v9), (5, .int v3), (4, .int a6), (7, .int v3), (0, .ref (na B k_0)), (1, .int a1), (2, .int a2), (3, .int a3)]) C0 7 dX4_choice_59 rfl ev9 (by decide) rfl ?_
                refine nx_goto (tgt := 10) C0 dX4_choice_62 (by decide) ?_
                refine nx_lv (lv' := [(0, .ref (na B k_0)), (1, .int a1), (2, .int a2), (3, .int a3), (4, .int a6), (5, .int v3), (6, .int v9)]) [4, 5, 6, 7, 2, 1, 0] rfl ?_
                exact ih k_0 hk_0 a1 a2 a3 a6 v3 v9 h
  refine nx_lv (lv' := [(0, .ref (na B k0)), (1, .int x1), (2, .int x2), (3, .int x3)]) [0, 1, 2, 3] rfl ?_
  rw [fX4_choice] at h
  refine nx_bipush (v := -4) C0 dX4_choice_0 (by decide) ?_
  refine nx_istore (i := 4) (y := (-4 : Int32)) (lv' := [(4, .int (-4 : Int32)), (0, .ref (na B k0)), (1, .int x1), (2, .int x2), (3, .int x3)]) C0 dX4_choice_2 (by decide) rfl rfl ?_
  refine nx_iconst (v := 0) C0 dX4_choice_4 (by decide) ?_
  refine nx_istore (i := 5) (y := (0 : Int32)) (lv' := [(5, .int (0 : Int32)), (4, .int (-4 : Int32)), (0, .ref (na B k0)), (1, .int x1), (2, .int x2), (3, .int x3)]) C0 dX4_choice_5 (by decide) rfl rfl ?_
  refine nx_iconst (v := 0) C0 dX4_choice_7 (by decide) ?_
  refine nx_istore (i := 6) (y := (0 : Int32)) (lv' := [(6, .int (0 : Int32)), (5, .int (0 : Int32)), (4, .int (-4 : Int32)), (0, .ref (na B k0)), (1, .int x1), (2, .int x2), (3, .int x3)]) C0 dX4_choice_8 (by decide) rfl rfl ?_
  refine nx_lv (lv' := [(0, .ref (na B k0)), (1, .int x1), (2, .int x2), (3, .int x3), (4, .int (-4 : Int32)), (5, .int (0 : Int32)), (6, .int (0 : Int32))]) [3, 4, 5, 6, 2, 1, 0] rfl ?_
  exact hfX4_choice_b10 4096 k0 hk0 x1 x2 x3 (-4 : Int32) (0 : Int32) (0 : Int32) h
def rmX4_settle : Room := { frames := 0, cells := 0, slots := 0, locals := 0 }
theorem ndX4_settle : yX4_settle.cls = RX4 ∧ yX4_settle.cls ≠ "java/lang/invoke/MethodHandle" ∧ yX4_settle.cls ≠ "java/lang/invoke/VarHandle" ∧ (parseMethodDescriptor yX4_settle.desc).map (fun d => d.parameters.length) = some 2 := by decide +kernel
set_option maxRecDepth 100000 in
set_option maxHeartbeats 4000000 in
theorem mX4_settle (l : Launch) (D : va_G) (B : nBT) (hB : nInj B) {k0 : Nat} (hk0 : nT k0) (x1 : Int32) (x2 : Int32) (σ : nS)  {σ1 : nS} (h : fX4_settle k0 x1 x2 σ = some ((), σ1)) : nMv l D B yX4_settle wsX4_settle rmX4_settle [.ref (na B k0), .int x1, .int x2] σ σ1 := by
  refine nmet (cc := cX4_settle) (maxL := 3) (ret := none) (own := RX4) (av := [.ref (na B k0), .int x1, .int x2]) (nQv D B σ1) hB (by decide) rfl rfl (Nat.le_of_ble_eq_true rfl) (fun p e s m args below meth c C0 hr => ?_)
  have hh0 : ∀ w ∈ wsX40, w ∈ wsX4_settle := by decide +kernel
  have hh1 := C0.2.2.2.2.1 (Cond.fieldLink RX4 18 "NotInTheCoin$Town" "ownerOf" "[I") (by decide +kernel)
  have hh2 := C0.2.2.2.2.1 (Cond.fieldLink RX4 24 "NotInTheCoin$Town" "lenderOf" "[I") (by decide +kernel)
  have hh3 := C0.2.2.2.2.1 (Cond.fieldLink RX4 52 "NotInTheCoin$Town" "open" "I") (by decide +kernel)
  refine nx_lv (lv' := [(0, .ref (na B k0)), (1, .int x1), (2, .int x2)]) [0, 1, 2] rfl ?_
  rw [fX4_settle] at h
  refine nx_aload_n C0 0 dX4_settle_0 rfl ?_
  refine nx_gX4_ownerOf C0 hk0 hh0 hh1 dX4_settle_1 ?_
  refine nx_iload_n C0 2 dX4_settle_4 rfl ?_
  refine nx_aload_n C0 0 dX4_settle_5 rfl ?_
  refine nx_gX4_lenderOf C0 hk0 hh0 hh2 dX4_settle_6 ?_
  refine nx_iload_n C0 1 dX4_settle_9 rfl ?_
  obtain ⟨g1, h⟩ := nguard h
  refine nx_iald C0 (nT_a5 hk0) g1 dX4_settle_10 ?_
  obtain ⟨g2, h⟩ := nguard h
  obtain ⟨t3, et3, h⟩ := nlet h
  refine nx_iast C0 (nT_a3 hk0) g2 dX4_settle_11 et3 ?_
  refine nx_aload_n C0 0 dX4_settle_12 rfl ?_
  refine nx_dup C0 dX4_settle_13 rfl ?_
  refine nx_gX4_open C0 hk0 hh0 hh3 dX4_settle_14 ?_
  refine nx_iconst (v := 1) C0 dX4_settle_17 (by decide) ?_
  refine nx_iload_n C0 1 dX4_settle_18 rfl ?_
  refine nx_ishl C0 dX4_settle_19 ?_
  refine nx_iconst (v := -1) C0 dX4_settle_20 (by decide) ?_
  refine nx_ixor C0 dX4_settle_21 ?_
  refine nx_iand C0 dX4_settle_22 ?_
  obtain ⟨t4, et4, h⟩ := nlet h
  refine nx_pX4_open C0 hk0 hh0 hh3 dX4_settle_23 et4 ?_
  exact nr_v2 C0 hr dX4_settle_26 h
def rmX4_passWeek : Room := { frames := 3, cells := 0, slots := 0, locals := 77 }
theorem ndX4_passWeek : yX4_passWeek.cls = RX4 ∧ yX4_passWeek.cls ≠ "java/lang/invoke/MethodHandle" ∧ yX4_passWeek.cls ≠ "java/lang/invoke/VarHandle" ∧ (parseMethodDescriptor yX4_passWeek.desc).map (fun d => d.parameters.length) = some 0 := by decide +kernel
set_option maxRecDepth 100000 in
set_option maxHeartbeats 4000000 in
theorem mX4_passWeek (l : Launch) (D : va_G) (B : nBT) (hB : nInj B) {k0 : Nat} (hk0 : nT k0) (σ : nS)  {σ1 : nS} (h : fX4_passWeek k0 σ = some ((), σ1)) : nMv l D B yX4_passWeek wsX4_passWeek rmX4_passWeek [.ref (na B k0)] σ σ1 := by
  refine nmet (cc := cX4_passWeek) (maxL := 3) (ret := none) (own := RX4) (av := [.ref (na B k0)]) (nQv D B σ1) hB (by decide) rfl rfl (Nat.le_of_ble_eq_true rfl) (fun p e s m args below meth c C0 hr => ?_)
  have hh0 : ∀ w ∈ wsX40, w ∈ wsX4_passWeek := by decide +kernel
  have hh1 := C0.2.2.2.2.1 (Cond.fieldLink RX4 49 "NotInTheCoin$Town" "loans" "I") (by decide +kernel)
  have hh2 := C0.2.2.2.2.1 (Cond.fieldLink RX4 27 "NotInTheCoin$Town" "debtorOf" "[I") (by decide +kernel)
  have hh3 := C0.2.2.2.2.1 (Cond.fieldLink RX4 55 "NotInTheCoin$Town" "week" "I") (by decide +kernel)
  have hfX4_passWeek_b12 : ∀  (n : Nat) (k_0 : Nat) (hk_0 : nT k_0) (a1 : Int32) (σ : nS) (h : fX4_passWeek_b12  n k_0 a1 σ = some ((), σ1)), nJ p l e rmX4_passWeek s m args below meth c 0 0 (MQ below (nQv D B σ1 s.heap.size) args s 0 0 (nA B s.heap.size)) D B 3 12 [(0, .ref (na B k_0)), (1, .int a1)] [] σ := by
    intro  n
    induction n with
    | zero => intro k_0 hk_0 a1 σ h; cases h
    | succ n ih =>
        intro k_0 hk_0 a1 σ h
        rw [fX4_passWeek_b12] at h
        refine nx_iload_n C0 1 dX4_passWeek_12 rfl ?_
        refine nx_aload_n C0 0 dX4_passWeek_13 rfl ?_
        refine nx_gX4_loans C0 hk_0 hh0 hh1 dX4_passWeek_14 ?_
        refine nx_icmp_ge (tgt := 53) C0 dX4_passWeek_17 (by decide) (fun q => ?_) (fun q => ?_)
        · have h := nift q h
          exact nr_v2 C0 hr dX4_passWeek_53 h
        · have h := niff q h
          refine nx_aload_n C0 0 dX4_passWeek_20 rfl ?_
          refine nx_aload_n C0 0 dX4_passWeek_21 rfl ?_
          refine nx_gX4_debtorOf C0 hk_0 hh0 hh2 dX4_passWeek_22 ?_
          refine nx_iload_n C0 1 dX4_passWeek_25 rfl ?_
          obtain ⟨g1, h⟩ := nguard h
          refine nx_iald C0 (nT_a6 hk_0) g1 dX4_passWeek_26 ?_
          refine nx_aload_n C0 0 dX4_passWeek_27 rfl ?_
          refine nx_iload_n C0 1 dX4_passWeek_28 rfl ?_
          obtain ⟨r3, c2, h⟩ := nbind h
          refine nx_cVi (ci := 4) (n := 1) (As := [.int a1]) (st := [.int (σ (k_0 + 6) (a1).toNatClampNeg), .ref (na B k_0)]) C0 (mX4_payers l D B hB hk_0 a1 σ c2) gX4_passWeek_X4_payers rfl rfl rfl ndX4_payers ⟨Nat.le_of_ble_eq_true rfl, Nat.le_of_ble_eq_true rfl⟩ (by have := nT_lt hk_0; omega) (nT_e hk_0 _) rfl rfl rfl (Nat.le_of_ble_eq_true rfl) rfl dX4_passWeek_29 ?_
          refine nx_iconst (v := -1) C0 dX4_passWeek_32 (by decide) ?_
          obtain ⟨r5, c4, h⟩ := nbind h
          refine nx_cVi (ci := 4) (n := 3) (As := [.int (σ (k_0 + 6) (a1).toNatClampNeg), .int r3, .int (-1 : Int32)]) (st := []) C0 (mX4_choice l D B hB hk_0 (σ (k_0 + 6) (a1).toNatClampNeg) r3 (-1 : Int32) σ c4) gX4_passWeek_X4_choice rfl rfl rfl ndX4_choice ⟨Nat.le_of_ble_eq_true rfl, Nat.le_of_ble_eq_true rfl⟩ (by have := nT_lt hk_0; omega) (nT_e hk_0 _) rfl rfl rfl (Nat.le_of_ble_eq_true rfl) rfl dX4_passWeek_33 ?_
          refine nx_istore_n (i := 2) (y := r5) (lv' := [(2, .int r5), (0, .ref (na B k_0)), (1, .int a1)]) C0 dX4_passWeek_36 rfl (by decide) rfl rfl ?_
          refine nx_iload_n C0 0 dX4_passWeek_37 rfl ?_
          refine nx_if_lt (tgt := 47) C0 dX4_passWeek_38 (by decide) (fun q => ?_) (fun q => ?_)
          · have h := nift q h
            obtain ⟨v6, ev6, h⟩ := nlet h
            refine nx_iinc (v := v6) (lv' := [(1, .int v6), (2, .int r5), (0, .ref (na B k_0))]) C0 2 dX4_passWeek_47 rfl ev6 (by decide) rfl ?_
            refine nx_goto (tgt := 12) C0 dX4_passWeek_50 (by decide) ?_
            refine nx_lv (lv' := [(0, .ref (na B k_0)), (1, .int v6)]) [2, 0] rfl ?_
            exact ih k_0 hk_0 v6 σ h
          · have h := niff q h
            refine nx_aload_n C0 1 dX4_passWeek_41 rfl ?_
            refine nx_iload_n C0 2 dX4_passWeek_42 rfl ?_
            refine nx_iload_n C0 0 dX4_passWeek_43 rfl ?_
            obtain ⟨r8, t9, c7, h⟩ := nbind2 h
            refine nx_cVv (ci := 4) (n := 2) (As := [.int a1, .int r5]) (st := []) C0 (mX4_settle l D B hB hk_0 a1 r5 σ c7) gX4_passWeek_X4_settle rfl rfl rfl ndX4_settle ⟨Nat.le_of_ble_eq_true rfl, Nat.le_of_ble_eq_true rfl⟩ (by have := nT_lt hk_0; omega) (nT_e hk_0 _) rfl rfl rfl (Nat.le_of_ble_eq_true rfl) rfl dX4_passWeek_44 ?_
            obtain ⟨v10, ev10, h⟩ := nlet h
            refine nx_iinc (v := v10) (lv' := [(1, .int v10), (2, .int r5), (0, .ref (na B k_0))]) C0 2 dX4_passWeek_47 rfl ev10 (by decide) rfl ?_
            refine nx_goto (tgt := 12) C0 dX4_passWeek_50 (by decide) ?_
            refine nx_lv (lv' := [(0, .ref (na B k_0)), (1, .int v10)]) [2, 0] rfl ?_
            exact ih k_0 hk_0 v10 t9 h
  refine nx_lv (lv' := [(0, .ref (na B k0))]) [0] rfl ?_
  rw [fX4_passWeek] at h
  refine nx_aload_n C0 0 dX4_passWeek_0 rfl ?_
  refine nx_dup C0 dX4_passWeek_1 rfl ?_
  refine nx_gX4_week C0 hk0 hh0 hh3 dX4_passWeek_2 ?_
  refine nx_iconst (v := 1) C0 dX4_passWeek_5 (by decide) ?_
  refine nx_iadd C0 dX4_passWeek_6 ?_
  obtain ⟨t11, et11, h⟩ := nlet h
  refine nx_pX4_week C0 hk0 hh0 hh3 dX4_passWeek_7 et11 ?_
  refine nx_iconst (v := 0) C0 dX4_passWeek_10 (by decide) ?_
  refine nx_istore_n (i := 1) (y := (0 : Int32)) (lv' := [(1, .int (0 : Int32)), (0, .ref (na B k0))]) C0 dX4_passWeek_11 rfl (by decide) rfl rfl ?_
  refine nx_lv (lv' := [(0, .ref (na B k0)), (1, .int (0 : Int32))]) [1, 0] rfl ?_
  exact hfX4_passWeek_b12 4096 k0 hk0 (0 : Int32) t11 h
def rmJ6_bitCount_0f7a4 : Room := { frames := 0, cells := 0, slots := 0, locals := 0 }
theorem ndJ6_bitCount_0f7a4 : yJ6_bitCount_0f7a4.cls ≠ "java/lang/invoke/MethodHandle" ∧ yJ6_bitCount_0f7a4.cls ≠ "java/lang/invoke/VarHandle" ∧ (parseMethodDescriptor yJ6_bitCount_0f7a4.desc).map (fun d => d.parameters.length) = some 1 := by decide +kernel
set_option maxRecDepth 100000 in
set_option maxHeartbeats 4000000 in
theorem mJ6_bitCount_0f7a4 (l : Launch) (D : va_G) (B : nBT) (hB : nInj B) (x0 : Int32) (σ : nS) {r : Int32}  (h : fJ6_bitCount_0f7a4 x0 σ = some r) : nMi l D B yJ6_bitCount_0f7a4 wsJ6_bitCount_0f7a4 rmJ6_bitCount_0f7a4 [.int x0] σ r σ := by
  refine nmet (cc := cJ6_bitCount_0f7a4) (maxL := 1) (ret := (some .int)) (own := RJ6) (av := [.int x0]) (nQi D B r σ) hB (by decide) rfl rfl (Nat.le_of_ble_eq_true rfl) (fun p e s m args below meth c C0 hr => ?_)
  have hh0 := C0.2.2.2.2.1 (Cond.constant RJ6 265 (1431655765)) (by decide +kernel)
  have hh1 := C0.2.2.2.2.1 (Cond.constant RJ6 266 (858993459)) (by decide +kernel)
  have hh2 := C0.2.2.2.2.1 (Cond.constant RJ6 267 (252645135)) (by decide +kernel)
  refine nx_lv (lv' := [(0, .int x0)]) [0] rfl ?_
  rw [fJ6_bitCount_0f7a4] at h
  refine nx_iload_n C0 0 dJ6_bitCount_0f7a4_0 rfl ?_
  refine nx_iload_n C0 0 dJ6_bitCount_0f7a4_1 rfl ?_
  refine nx_iconst (v := 1) C0 dJ6_bitCount_0f7a4_2 (by decide) ?_
  refine nx_iushr C0 dJ6_bitCount_0f7a4_3 ?_
  refine nx_ldcw (v := 1431655765) C0 dJ6_bitCount_0f7a4_4 hh0 ?_
  refine nx_iand C0 dJ6_bitCount_0f7a4_7 ?_
  refine nx_isub C0 dJ6_bitCount_0f7a4_8 ?_
  obtain ⟨v1, ev1, h⟩ := nlet h
  refine nx_istore_n (i := 0) (y := v1) (lv' := [(0, .int v1)]) C0 dJ6_bitCount_0f7a4_9 rfl (by decide) ev1 rfl ?_
  refine nx_iload_n C0 0 dJ6_bitCount_0f7a4_10 rfl ?_
  refine nx_ldcw (v := 858993459) C0 dJ6_bitCount_0f7a4_11 hh1 ?_
  refine nx_iand C0 dJ6_bitCount_0f7a4_14 ?_
  refine nx_iload_n C0 0 dJ6_bitCount_0f7a4_15 rfl ?_
  refine nx_iconst (v := 2) C0 dJ6_bitCount_0f7a4_16 (by decide) ?_
  refine nx_iushr C0 dJ6_bitCount_0f7a4_17 ?_
  refine nx_ldcw (v := 858993459) C0 dJ6_bitCount_0f7a4_18 hh1 ?_
  refine nx_iand C0 dJ6_bitCount_0f7a4_21 ?_
  refine nx_iadd C0 dJ6_bitCount_0f7a4_22 ?_
  obtain ⟨v2, ev2, h⟩ := nlet h
  refine nx_istore_n (i := 0) (y := v2) (lv' := [(0, .int v2)]) C0 dJ6_bitCount_0f7a4_23 rfl (by decide) ev2 rfl ?_
  refine nx_iload_n C0 0 dJ6_bitCount_0f7a4_24 rfl ?_
  refine nx_iload_n C0 0 dJ6_bitCount_0f7a4_25 rfl ?_
  refine nx_iconst (v := 4) C0 dJ6_bitCount_0f7a4_26 (by decide) ?_
  refine nx_iushr C0 dJ6_bitCount_0f7a4_27 ?_
  refine nx_iadd C0 dJ6_bitCount_0f7a4_28 ?_
  refine nx_ldcw (v := 252645135) C0 dJ6_bitCount_0f7a4_29 hh2 ?_
  refine nx_iand C0 dJ6_bitCount_0f7a4_32 ?_
  obtain ⟨v3, ev3, h⟩ := nlet h
  refine nx_istore_n (i := 0) (y := v3) (lv' := [(0, .int v3)]) C0 dJ6_bitCount_0f7a4_33 rfl (by decide) ev3 rfl ?_
  refine nx_iload_n C0 0 dJ6_bitCount_0f7a4_34 rfl ?_
  refine nx_iload_n C0 0 dJ6_bitCount_0f7a4_35 rfl ?_
  refine nx_bipush (v := 8) C0 dJ6_bitCount_0f7a4_36 (by decide) ?_
  refine nx_iushr C0 dJ6_bitCount_0f7a4_38 ?_
  refine nx_iadd C0 dJ6_bitCount_0f7a4_39 ?_
  obtain ⟨v4, ev4, h⟩ := nlet h
  refine nx_istore_n (i := 0) (y := v4) (lv' := [(0, .int v4)]) C0 dJ6_bitCount_0f7a4_40 rfl (by decide) ev4 rfl ?_
  refine nx_iload_n C0 0 dJ6_bitCount_0f7a4_41 rfl ?_
  refine nx_iload_n C0 0 dJ6_bitCount_0f7a4_42 rfl ?_
  refine nx_bipush (v := 16) C0 dJ6_bitCount_0f7a4_43 (by decide) ?_
  refine nx_iushr C0 dJ6_bitCount_0f7a4_45 ?_
  refine nx_iadd C0 dJ6_bitCount_0f7a4_46 ?_
  obtain ⟨v5, ev5, h⟩ := nlet h
  refine nx_istore_n (i := 0) (y := v5) (lv' := [(0, .int v5)]) C0 dJ6_bitCount_0f7a4_47 rfl (by decide) ev5 rfl ?_
  refine nx_iload_n C0 0 dJ6_bitCount_0f7a4_48 rfl ?_
  refine nx_bipush (v := 63) C0 dJ6_bitCount_0f7a4_49 (by decide) ?_
  refine nx_iand C0 dJ6_bitCount_0f7a4_51 ?_
  exact nr_i C0 hr dJ6_bitCount_0f7a4_52 h
