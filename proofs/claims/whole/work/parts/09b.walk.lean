def rmX6_isDone : Room := { frames := 8, cells := 0, slots := 0, locals := 180 }
theorem ndX6_isDone : yX6_isDone.cls = RX6 ∧ yX6_isDone.cls ≠ "java/lang/invoke/MethodHandle" ∧ yX6_isDone.cls ≠ "java/lang/invoke/VarHandle" ∧ (parseMethodDescriptor yX6_isDone.desc).map (fun d => d.parameters.length) = some 1 := by decide +kernel
set_option maxRecDepth 100000 in
set_option maxHeartbeats 4000000 in
theorem mX6_isDone (l : Launch) (D : va_G) (B : nBT) (hB : nInj B) (x1 : Int32) (σ : nS) {r : Int32} {σ1 : nS} (h : fX6_isDone x1 σ = some (r, σ1)) : nMi l D B yX6_isDone wsX6_isDone rmX6_isDone [.ref (na B 63), .int x1] σ r σ1 := by
  refine nmet (cc := cX6_isDone) (maxL := 4) (ret := (some .boolean)) (own := RX6) (av := [.ref (na B 63), .int x1]) (nQi D B r σ1) hB (by decide) rfl rfl (Nat.le_of_ble_eq_true rfl) (fun p e s m args below meth c C0 hr => ?_)
  have hh0 : ∀ w ∈ wsX60, w ∈ wsX6_isDone := by decide +kernel
  have hh1 := C0.2.2.2.2.1 (Cond.fieldLink RX6 22 "NotInTheCoinModel" "numbers" "[I") (by decide +kernel)
  have hh2 := C0.2.2.2.2.1 (Cond.fieldLink RX6 9 "NotInTheCoinModel" "s" "[I") (by decide +kernel)
  refine nx_lv (lv' := [(0, .ref (na B 63)), (1, .int x1)]) [0, 1] rfl ?_
  rw [fX6_isDone] at h
  refine nx_aload_n C0 0 dX6_isDone_0 rfl ?_
  refine nx_gX6_numbers C0 hh0 hh1 dX6_isDone_1 ?_
  refine nx_iconst (v := 0) C0 dX6_isDone_4 (by decide) ?_
  obtain ⟨g1, h⟩ := nguard h
  refine nx_iald C0 nI_68 g1 dX6_isDone_5 ?_
  obtain ⟨v2, ev2, h⟩ := nlet h
  refine nx_istore_n (i := 2) (y := v2) (lv' := [(2, .int v2), (0, .ref (na B 63)), (1, .int x1)]) C0 dX6_isDone_6 rfl (by decide) ev2 rfl ?_
  refine nx_aload_n C0 1 dX6_isDone_7 rfl ?_
  refine nx_gX6_numbers C0 hh0 hh1 dX6_isDone_8 ?_
  refine nx_iconst (v := 1) C0 dX6_isDone_11 (by decide) ?_
  obtain ⟨g3, h⟩ := nguard h
  refine nx_iald C0 nI_68 g3 dX6_isDone_12 ?_
  obtain ⟨v4, ev4, h⟩ := nlet h
  refine nx_istore_n (i := 3) (y := v4) (lv' := [(3, .int v4), (2, .int v2), (0, .ref (na B 63)), (1, .int x1)]) C0 dX6_isDone_13 rfl (by decide) ev4 rfl ?_
  refine nx_iload_n C0 3 dX6_isDone_14 rfl ?_
  by_cases q13 : x1 = 103
  · have h := nift q13 h
    refine nx_look (tgt := 62) (off := 47) C0 dX6_isDone_15 rfl (by rw [q13]; rfl) (by decide) ?_
    refine nx_iload_n C0 1 dX6_isDone_62 rfl ?_
    refine nx_bipush (v := 8) C0 dX6_isDone_63 (by decide) ?_
    refine nx_icmp_ge (tgt := 92) C0 dX6_isDone_65 (by decide) (fun q => ?_) (fun q => ?_)
    · have h := nift q h
      refine nx_iconst (v := 0) C0 dX6_isDone_92 (by decide) ?_
      exact nr_z2 C0 hr (Or.inl rfl) dX6_isDone_93 h
    · have h := niff q h
      refine nx_aload_n C0 2 dX6_isDone_68 rfl ?_
      refine nx_aload_n C0 2 dX6_isDone_69 rfl ?_
      refine nx_gX6_numbers C0 hh0 hh1 dX6_isDone_70 ?_
      refine nx_iconst (v := 2) C0 dX6_isDone_73 (by decide) ?_
      obtain ⟨g5, h⟩ := nguard h
      refine nx_iald C0 nI_68 g5 dX6_isDone_74 ?_
      obtain ⟨r7, c6, h⟩ := nbind h
      refine nx_cVi (ci := 6) (n := 1) (As := [.int (σ 68 ((2 : Int32)).toNatClampNeg)]) (st := []) C0 (mX6_isPerson l D B hB (σ 68 ((2 : Int32)).toNatClampNeg) σ c6) gX6_isDone_X6_isPerson rfl rfl rfl ndX6_isPerson ⟨Nat.le_of_ble_eq_true rfl, Nat.le_of_ble_eq_true rfl⟩ (by decide) rfl rfl rfl rfl (Nat.le_of_ble_eq_true rfl) rfl dX6_isDone_75 ?_
      refine nx_if_eq (tgt := 92) C0 dX6_isDone_78 (by decide) (fun q => ?_) (fun q => ?_)
      · have h := nift q h
        refine nx_iconst (v := 0) C0 dX6_isDone_92 (by decide) ?_
        exact nr_z2 C0 hr (Or.inl rfl) dX6_isDone_93 h
      · have h := niff q h
        refine nx_aload_n C0 2 dX6_isDone_81 rfl ?_
        refine nx_gX6_s C0 hh0 hh2 dX6_isDone_82 ?_
        refine nx_iconst (v := 0) C0 dX6_isDone_85 (by decide) ?_
        obtain ⟨g8, h⟩ := nguard h
        refine nx_iald C0 nI_64 g8 dX6_isDone_86 ?_
        refine nx_bipush (v := 8) C0 dX6_isDone_87 (by decide) ?_
        refine nx_icmp_ne (tgt := 94) C0 dX6_isDone_89 (by decide) (fun q => ?_) (fun q => ?_)
        · have h := niff q h
          refine nx_aload_n C0 2 dX6_isDone_94 rfl ?_
          refine nx_iload_n C0 1 dX6_isDone_95 rfl ?_
          refine nx_iload_n C0 0 dX6_isDone_96 rfl ?_
          refine nx_aload_n C0 2 dX6_isDone_97 rfl ?_
          refine nx_gX6_numbers C0 hh0 hh1 dX6_isDone_98 ?_
          refine nx_iconst (v := 2) C0 dX6_isDone_101 (by decide) ?_
          obtain ⟨g9, h⟩ := nguard h
          refine nx_iald C0 nI_68 g9 dX6_isDone_102 ?_
          obtain ⟨r11, t12, c10, h⟩ := nbind2 h
          refine nx_cVv (ci := 6) (n := 3) (As := [.int v2, .int v4, .int (σ 68 ((2 : Int32)).toNatClampNeg)]) (st := []) C0 (mX6_addsGood l D B hB v2 v4 (σ 68 ((2 : Int32)).toNatClampNeg) σ c10) gX6_isDone_X6_addsGood rfl rfl rfl ndX6_addsGood ⟨Nat.le_of_ble_eq_true rfl, Nat.le_of_ble_eq_true rfl⟩ (by decide) rfl rfl rfl rfl (Nat.le_of_ble_eq_true rfl) rfl dX6_isDone_103 ?_
          refine nx_iconst (v := 1) C0 dX6_isDone_106 (by decide) ?_
          exact nr_z2 C0 hr (Or.inr rfl) dX6_isDone_107 h
        · have h := nift q h
          refine nx_iconst (v := 0) C0 dX6_isDone_92 (by decide) ?_
          exact nr_z2 C0 hr (Or.inl rfl) dX6_isDone_93 h
  have h := niff q13 h
  by_cases q25 : x1 = 108
  · have h := nift q25 h
    refine nx_look (tgt := 108) (off := 93) C0 dX6_isDone_15 rfl (by rw [q25]; rfl) (by decide) ?_
    refine nx_aload_n C0 2 dX6_isDone_108 rfl ?_
    refine nx_iload_n C0 1 dX6_isDone_109 rfl ?_
    obtain ⟨r15, c14, h⟩ := nbind h
    refine nx_cVi (ci := 6) (n := 1) (As := [.int v2]) (st := []) C0 (mX6_isGood l D B hB v2 σ c14) gX6_isDone_X6_isGood rfl rfl rfl ndX6_isGood ⟨Nat.le_of_ble_eq_true rfl, Nat.le_of_ble_eq_true rfl⟩ (by decide) rfl rfl rfl rfl (Nat.le_of_ble_eq_true rfl) rfl dX6_isDone_110 ?_
    refine nx_if_eq (tgt := 150) C0 dX6_isDone_113 (by decide) (fun q => ?_) (fun q => ?_)
    · have h := nift q h
      refine nx_iconst (v := 0) C0 dX6_isDone_150 (by decide) ?_
      exact nr_z2 C0 hr (Or.inl rfl) dX6_isDone_151 h
    · have h := niff q h
      refine nx_aload_n C0 2 dX6_isDone_116 rfl ?_
      refine nx_iload_n C0 0 dX6_isDone_117 rfl ?_
      obtain ⟨r17, c16, h⟩ := nbind h
      refine nx_cVi (ci := 6) (n := 1) (As := [.int v4]) (st := []) C0 (mX6_isPerson l D B hB v4 σ c16) gX6_isDone_X6_isPerson rfl rfl rfl ndX6_isPerson ⟨Nat.le_of_ble_eq_true rfl, Nat.le_of_ble_eq_true rfl⟩ (by decide) rfl rfl rfl rfl (Nat.le_of_ble_eq_true rfl) rfl dX6_isDone_118 ?_
      refine nx_if_eq (tgt := 150) C0 dX6_isDone_121 (by decide) (fun q => ?_) (fun q => ?_)
      · have h := nift q h
        refine nx_iconst (v := 0) C0 dX6_isDone_150 (by decide) ?_
        exact nr_z2 C0 hr (Or.inl rfl) dX6_isDone_151 h
      · have h := niff q h
        refine nx_aload_n C0 2 dX6_isDone_124 rfl ?_
        refine nx_gX6_s C0 hh0 hh2 dX6_isDone_125 ?_
        refine nx_iload_n C0 1 dX6_isDone_128 rfl ?_
        obtain ⟨r19, c18, h⟩ := nbind h
        refine nx_cSi (n := 1) (As := [.int v2]) (st := [.ref (na B 64)]) C0 (mX6_ofG l D B hB v2 σ c18) gX6_isDone_X6_ofG rfl rfl rfl ndX6_ofG ⟨Nat.le_of_ble_eq_true rfl, Nat.le_of_ble_eq_true rfl⟩ rfl (Nat.le_of_ble_eq_true rfl) rfl dX6_isDone_129 ?_
        refine nx_iconst (v := 2) C0 dX6_isDone_132 (by decide) ?_
        refine nx_iadd C0 dX6_isDone_133 ?_
        obtain ⟨g20, h⟩ := nguard h
        refine nx_iald C0 nI_64 g20 dX6_isDone_134 ?_
        refine nx_iload_n C0 0 dX6_isDone_135 rfl ?_
        refine nx_icmp_eq (tgt := 150) C0 dX6_isDone_136 (by decide) (fun q => ?_) (fun q => ?_)
        · have h := nift q h
          refine nx_iconst (v := 0) C0 dX6_isDone_150 (by decide) ?_
          exact nr_z2 C0 hr (Or.inl rfl) dX6_isDone_151 h
        · have h := niff q h
          refine nx_aload_n C0 2 dX6_isDone_139 rfl ?_
          refine nx_gX6_s C0 hh0 hh2 dX6_isDone_140 ?_
          refine nx_iconst (v := 2) C0 dX6_isDone_143 (by decide) ?_
          obtain ⟨g21, h⟩ := nguard h
          refine nx_iald C0 nI_64 g21 dX6_isDone_144 ?_
          refine nx_bipush (v := 8) C0 dX6_isDone_145 (by decide) ?_
          refine nx_icmp_ne (tgt := 152) C0 dX6_isDone_147 (by decide) (fun q => ?_) (fun q => ?_)
          · have h := niff q h
            refine nx_aload_n C0 2 dX6_isDone_152 rfl ?_
            refine nx_iload_n C0 1 dX6_isDone_153 rfl ?_
            refine nx_iload_n C0 0 dX6_isDone_154 rfl ?_
            obtain ⟨r23, t24, c22, h⟩ := nbind2 h
            refine nx_cVv (ci := 6) (n := 2) (As := [.int v2, .int v4]) (st := []) C0 (mX6_addsLoan l D B hB v2 v4 σ c22) gX6_isDone_X6_addsLoan rfl rfl rfl ndX6_addsLoan ⟨Nat.le_of_ble_eq_true rfl, Nat.le_of_ble_eq_true rfl⟩ (by decide) rfl rfl rfl rfl (Nat.le_of_ble_eq_true rfl) rfl dX6_isDone_155 ?_
            refine nx_iconst (v := 1) C0 dX6_isDone_158 (by decide) ?_
            exact nr_z2 C0 hr (Or.inr rfl) dX6_isDone_159 h
          · have h := nift q h
            refine nx_iconst (v := 0) C0 dX6_isDone_150 (by decide) ?_
            exact nr_z2 C0 hr (Or.inl rfl) dX6_isDone_151 h
  have h := niff q25 h
  by_cases q30 : x1 = 112
  · have h := nift q30 h
    refine nx_look (tgt := 56) (off := 41) C0 dX6_isDone_15 rfl (by rw [q30]; rfl) (by decide) ?_
    refine nx_aload_n C0 2 dX6_isDone_56 rfl ?_
    refine nx_iload_n C0 1 dX6_isDone_57 rfl ?_
    obtain ⟨r27, t28, c26, h⟩ := nbind2 h
    refine nx_cVi (ci := 6) (n := 1) (As := [.int v2]) (st := []) C0 (mX6_addsPerson l D B hB v2 σ c26) gX6_isDone_X6_addsPerson rfl rfl rfl ndX6_addsPerson ⟨Nat.le_of_ble_eq_true rfl, Nat.le_of_ble_eq_true rfl⟩ (by decide) rfl rfl rfl rfl (Nat.le_of_ble_eq_true rfl) rfl dX6_isDone_58 ?_
    obtain ⟨g29, h⟩ := nguard h
    exact nr_z2 C0 hr g29 dX6_isDone_61 h
  have h := niff q30 h
  by_cases q34 : x1 = 115
  · have h := nift q34 h
    refine nx_look (tgt := 160) (off := 145) C0 dX6_isDone_15 rfl (by rw [q34]; rfl) (by decide) ?_
    refine nx_iload_n C0 1 dX6_isDone_160 rfl ?_
    refine nx_bipush (v := 8) C0 dX6_isDone_161 (by decide) ?_
    refine nx_icmp_ge (tgt := 172) C0 dX6_isDone_163 (by decide) (fun q => ?_) (fun q => ?_)
    · have h := nift q h
      refine nx_iconst (v := 0) C0 dX6_isDone_172 (by decide) ?_
      exact nr_z2 C0 hr (Or.inl rfl) dX6_isDone_173 h
    · have h := niff q h
      refine nx_iload_n C0 0 dX6_isDone_166 rfl ?_
      refine nx_bipush (v := 8) C0 dX6_isDone_167 (by decide) ?_
      refine nx_icmp_lt (tgt := 174) C0 dX6_isDone_169 (by decide) (fun q => ?_) (fun q => ?_)
      · have h := nift q h
        refine nx_aload_n C0 2 dX6_isDone_174 rfl ?_
        refine nx_gX6_s C0 hh0 hh2 dX6_isDone_175 ?_
        refine nx_bipush (v := 66) C0 dX6_isDone_178 (by decide) ?_
        refine nx_iload_n C0 0 dX6_isDone_180 rfl ?_
        refine nx_iadd C0 dX6_isDone_181 ?_
        refine nx_aload_n C0 2 dX6_isDone_182 rfl ?_
        refine nx_gX6_s C0 hh0 hh2 dX6_isDone_183 ?_
        refine nx_bipush (v := 66) C0 dX6_isDone_186 (by decide) ?_
        refine nx_iload_n C0 1 dX6_isDone_188 rfl ?_
        refine nx_iadd C0 dX6_isDone_189 ?_
        obtain ⟨g31, h⟩ := nguard h
        refine nx_iald C0 nI_64 g31 dX6_isDone_190 ?_
        obtain ⟨g32, h⟩ := nguard h
        obtain ⟨t33, et33, h⟩ := nlet h
        refine nx_iast C0 nI_64 g32 dX6_isDone_191 et33 ?_
        refine nx_iconst (v := 1) C0 dX6_isDone_192 (by decide) ?_
        exact nr_z2 C0 hr (Or.inr rfl) dX6_isDone_193 h
      · have h := niff q h
        refine nx_iconst (v := 0) C0 dX6_isDone_172 (by decide) ?_
        exact nr_z2 C0 hr (Or.inl rfl) dX6_isDone_173 h
  have h := niff q34 h
  refine nx_look (tgt := 194) (off := 179) C0 dX6_isDone_15 rfl ((lv_osw (a := 103) q13 (by decide)).trans ((lv_osw (a := 108) q25 (by decide)).trans ((lv_osw (a := 112) q30 (by decide)).trans ((lv_osw (a := 115) q34 (by decide)).trans (rfl))))) (by decide) ?_
  refine nx_iload_n C0 1 dX6_isDone_194 rfl ?_
  refine nx_iconst (v := 1) C0 dX6_isDone_195 (by decide) ?_
  refine nx_bipush (v := 60) C0 dX6_isDone_196 (by decide) ?_
  obtain ⟨r36, c35, h⟩ := nbind h
  refine nx_cSi (n := 3) (As := [.int v2, .int (1 : Int32), .int (60 : Int32)]) (st := []) C0 (mX6_isIn l D B hB v2 (1 : Int32) (60 : Int32) σ c35) gX6_isDone_X6_isIn rfl rfl rfl ndX6_isIn ⟨Nat.le_of_ble_eq_true rfl, Nat.le_of_ble_eq_true rfl⟩ rfl (Nat.le_of_ble_eq_true rfl) rfl dX6_isDone_198 ?_
  refine nx_if_eq (tgt := 218) C0 dX6_isDone_201 (by decide) (fun q => ?_) (fun q => ?_)
  · have h := nift q h
    refine nx_iconst (v := 0) C0 dX6_isDone_218 (by decide) ?_
    exact nr_z2 C0 hr (Or.inl rfl) dX6_isDone_219 h
  · have h := niff q h
    refine nx_aload_n C0 2 dX6_isDone_204 rfl ?_
    refine nx_gX6_s C0 hh0 hh2 dX6_isDone_205 ?_
    refine nx_iconst (v := 3) C0 dX6_isDone_208 (by decide) ?_
    obtain ⟨g37, h⟩ := nguard h
    refine nx_iald C0 nI_64 g37 dX6_isDone_209 ?_
    refine nx_iload_n C0 1 dX6_isDone_210 rfl ?_
    refine nx_iadd C0 dX6_isDone_211 ?_
    refine nx_sipush (v := 999) C0 dX6_isDone_212 (by decide) ?_
    refine nx_icmp_le (tgt := 220) C0 dX6_isDone_215 (by decide) (fun q => ?_) (fun q => ?_)
    · have h := nift q h
      refine nx_aload_n C0 2 dX6_isDone_220 rfl ?_
      refine nx_gX6_s C0 hh0 hh2 dX6_isDone_221 ?_
      refine nx_iload_n C0 1 dX6_isDone_224 rfl ?_
      obtain ⟨r39, t40, c38, h⟩ := nbind2 h
      refine nx_cSv (n := 2) (As := [.ref (na B 64), .int v2]) (st := []) C0 (mX6_weeksOn l D B hB nR64 v2 σ c38) gX6_isDone_X6_weeksOn rfl rfl rfl ndX6_weeksOn ⟨Nat.le_of_ble_eq_true rfl, Nat.le_of_ble_eq_true rfl⟩ rfl (Nat.le_of_ble_eq_true rfl) rfl dX6_isDone_225 ?_
      refine nx_iconst (v := 1) C0 dX6_isDone_228 (by decide) ?_
      exact nr_z2 C0 hr (Or.inr rfl) dX6_isDone_229 h
    · have h := niff q h
      refine nx_iconst (v := 0) C0 dX6_isDone_218 (by decide) ?_
      exact nr_z2 C0 hr (Or.inl rfl) dX6_isDone_219 h
def rmX6_isShelf : Room := { frames := 1, cells := 0, slots := 0, locals := 22 }
theorem ndX6_isShelf : yX6_isShelf.cls ≠ "java/lang/invoke/MethodHandle" ∧ yX6_isShelf.cls ≠ "java/lang/invoke/VarHandle" ∧ (parseMethodDescriptor yX6_isShelf.desc).map (fun d => d.parameters.length) = some 1 := by decide +kernel
set_option maxRecDepth 100000 in
set_option maxHeartbeats 4000000 in
theorem mX6_isShelf (l : Launch) (D : va_G) (B : nBT) (hB : nInj B) (x0 : Int32) (σ : nS) {r : Int32}  (h : fX6_isShelf x0 σ = some r) : nMi l D B yX6_isShelf wsX6_isShelf rmX6_isShelf [.int x0] σ r σ := by
  refine nmet (cc := cX6_isShelf) (maxL := 1) (ret := (some .boolean)) (own := RX6) (av := [.int x0]) (nQi D B r σ) hB (by decide) rfl rfl (Nat.le_of_ble_eq_true rfl) (fun p e s m args below meth c C0 hr => ?_)
  refine nx_lv (lv' := [(0, .int x0)]) [0] rfl ?_
  rw [fX6_isShelf] at h
  refine nx_iload_n C0 0 dX6_isShelf_0 rfl ?_
  refine nx_iconst (v := 0) C0 dX6_isShelf_1 (by decide) ?_
  refine nx_bipush (v := 7) C0 dX6_isShelf_2 (by decide) ?_
  obtain ⟨r2, c1, h⟩ := nbind h
  refine nx_cSi (n := 3) (As := [.int x0, .int (0 : Int32), .int (7 : Int32)]) (st := []) C0 (mX6_isIn l D B hB x0 (0 : Int32) (7 : Int32) σ c1) gX6_isShelf_X6_isIn rfl rfl rfl ndX6_isIn ⟨Nat.le_of_ble_eq_true rfl, Nat.le_of_ble_eq_true rfl⟩ rfl (Nat.le_of_ble_eq_true rfl) rfl dX6_isShelf_4 ?_
  obtain ⟨g3, h⟩ := nguard h
  exact nr_z C0 hr g3 dX6_isShelf_7 h
def rmX6_wrongRow : Room := { frames := 2, cells := 0, slots := 0, locals := 42 }
theorem ndX6_wrongRow : yX6_wrongRow.cls = RX6 ∧ yX6_wrongRow.cls ≠ "java/lang/invoke/MethodHandle" ∧ yX6_wrongRow.cls ≠ "java/lang/invoke/VarHandle" ∧ (parseMethodDescriptor yX6_wrongRow.desc).map (fun d => d.parameters.length) = some 2 := by decide +kernel
set_option maxRecDepth 100000 in
set_option maxHeartbeats 4000000 in
theorem mX6_wrongRow (l : Launch) (D : va_G) (B : nBT) (hB : nInj B) (x1 : Int32) (x2 : Int32) (σ : nS) {r : Int32}  (h : fX6_wrongRow x1 x2 σ = some r) : nMi l D B yX6_wrongRow wsX6_wrongRow rmX6_wrongRow [.ref (na B 63), .int x1, .int x2] σ r σ := by
  refine nmet (cc := cX6_wrongRow) (maxL := 3) (ret := (some .int)) (own := RX6) (av := [.ref (na B 63), .int x1, .int x2]) (nQi D B r σ) hB (by decide) rfl rfl (Nat.le_of_ble_eq_true rfl) (fun p e s m args below meth c C0 hr => ?_)
  have hh0 : ∀ w ∈ wsX60, w ∈ wsX6_wrongRow := by decide +kernel
  have hh1 := C0.2.2.2.2.1 (Cond.fieldLink RX6 34 "NotInTheCoinModel" "kept" "[I") (by decide +kernel)
  have hh2 := C0.2.2.2.2.1 (Cond.fieldLink RX6 43 "NotInTheCoinModel" "sort" "[I") (by decide +kernel)
  refine nx_lv (lv' := [(0, .ref (na B 63)), (1, .int x1), (2, .int x2)]) [0, 1, 2] rfl ?_
  rw [fX6_wrongRow] at h
  refine nx_iload_n C0 1 dX6_wrongRow_0 rfl ?_
  obtain ⟨r2, c1, h⟩ := nbind h
  refine nx_cSi (n := 1) (As := [.int x1]) (st := []) C0 (mX6_isShelf l D B hB x1 σ c1) gX6_wrongRow_X6_isShelf rfl rfl rfl ndX6_isShelf ⟨Nat.le_of_ble_eq_true rfl, Nat.le_of_ble_eq_true rfl⟩ rfl (Nat.le_of_ble_eq_true rfl) rfl dX6_wrongRow_1 ?_
  refine nx_if_ne (tgt := 11) C0 dX6_wrongRow_4 (by decide) (fun q => ?_) (fun q => ?_)
  · have h := niff q h
    refine nx_aload_n C0 0 dX6_wrongRow_11 rfl ?_
    refine nx_gX6_kept C0 hh0 hh1 dX6_wrongRow_12 ?_
    refine nx_iload_n C0 1 dX6_wrongRow_15 rfl ?_
    obtain ⟨g3, h⟩ := nguard h
    refine nx_iald C0 nI_72 g3 dX6_wrongRow_16 ?_
    refine nx_if_ne (tgt := 25) C0 dX6_wrongRow_17 (by decide) (fun q => ?_) (fun q => ?_)
    · have h := niff q h
      refine nx_aload_n C0 0 dX6_wrongRow_25 rfl ?_
      refine nx_gX6_kept C0 hh0 hh1 dX6_wrongRow_26 ?_
      refine nx_iload_n C0 1 dX6_wrongRow_29 rfl ?_
      obtain ⟨g4, h⟩ := nguard h
      refine nx_iald C0 nI_72 g4 dX6_wrongRow_30 ?_
      refine nx_iconst (v := 2) C0 dX6_wrongRow_31 (by decide) ?_
      refine nx_icmp_ne (tgt := 49) C0 dX6_wrongRow_32 (by decide) (fun q => ?_) (fun q => ?_)
      · have h := niff q h
        refine nx_bipush (v := -12) C0 dX6_wrongRow_49 (by decide) ?_
        refine nx_goto (tgt := 55) C0 dX6_wrongRow_51 (by decide) ?_
        exact nr_i C0 hr dX6_wrongRow_55 h
      · have h := nift q h
        refine nx_iload_n C0 2 dX6_wrongRow_35 rfl ?_
        refine nx_if_lt (tgt := 54) C0 dX6_wrongRow_36 (by decide) (fun q => ?_) (fun q => ?_)
        · have h := nift q h
          refine nx_iconst (v := 0) C0 dX6_wrongRow_54 (by decide) ?_
          exact nr_i C0 hr dX6_wrongRow_55 h
        · have h := niff q h
          refine nx_aload_n C0 0 dX6_wrongRow_39 rfl ?_
          refine nx_gX6_sort C0 hh0 hh2 dX6_wrongRow_40 ?_
          refine nx_iload_n C0 1 dX6_wrongRow_43 rfl ?_
          obtain ⟨g5, h⟩ := nguard h
          refine nx_iald C0 nI_75 g5 dX6_wrongRow_44 ?_
          refine nx_iload_n C0 2 dX6_wrongRow_45 rfl ?_
          refine nx_icmp_eq (tgt := 54) C0 dX6_wrongRow_46 (by decide) (fun q => ?_) (fun q => ?_)
          · have h := nift q h
            refine nx_iconst (v := 0) C0 dX6_wrongRow_54 (by decide) ?_
            exact nr_i C0 hr dX6_wrongRow_55 h
          · have h := niff q h
            refine nx_bipush (v := -12) C0 dX6_wrongRow_49 (by decide) ?_
            refine nx_goto (tgt := 55) C0 dX6_wrongRow_51 (by decide) ?_
            exact nr_i C0 hr dX6_wrongRow_55 h
    · have h := nift q h
      refine nx_bipush (v := -11) C0 dX6_wrongRow_20 (by decide) ?_
      refine nx_goto (tgt := 55) C0 dX6_wrongRow_22 (by decide) ?_
      exact nr_i C0 hr dX6_wrongRow_55 h
  · have h := nift q h
    refine nx_iconst (v := -1) C0 dX6_wrongRow_7 (by decide) ?_
    refine nx_goto (tgt := 55) C0 dX6_wrongRow_8 (by decide) ?_
    exact nr_i C0 hr dX6_wrongRow_55 h
def rmX6_town : Room := { frames := 9, cells := 0, slots := 0, locals := 203 }
theorem ndX6_town : yX6_town.cls = RX6 ∧ yX6_town.cls ≠ "java/lang/invoke/MethodHandle" ∧ yX6_town.cls ≠ "java/lang/invoke/VarHandle" ∧ (parseMethodDescriptor yX6_town.desc).map (fun d => d.parameters.length) = some 1 := by decide +kernel
set_option maxRecDepth 100000 in
set_option maxHeartbeats 4000000 in
theorem mX6_town (l : Launch) (D : va_G) (B : nBT) (hB : nInj B) (x1 : Int32) (σ : nS) {r : Int32} {σ1 : nS} (h : fX6_town x1 σ = some (r, σ1)) : nMi l D B yX6_town wsX6_town rmX6_town [.ref (na B 63), .int x1] σ r σ1 := by
  refine nmet (cc := cX6_town) (maxL := 8) (ret := (some .int)) (own := RX6) (av := [.ref (na B 63), .int x1]) (nQi D B r σ1) hB (by decide) rfl rfl (Nat.le_of_ble_eq_true rfl) (fun p e s m args below meth c C0 hr => ?_)
  have hh0 : ∀ w ∈ wsX60, w ∈ wsX6_town := by decide +kernel
  have hh1 := C0.2.2.2.2.1 (Cond.fieldLink RX6 98 "NotInTheCoinModel" "place" "I") (by decide +kernel)
  have hh2 := C0.2.2.2.2.1 (Cond.fieldLink RX6 102 "NotInTheCoinModel" "rowEnd" "I") (by decide +kernel)
  have hh3 := C0.2.2.2.2.1 (Cond.fieldLink RX6 19 "NotInTheCoinModel" "was" "[I") (by decide +kernel)
  have hh4 := C0.2.2.2.2.1 (Cond.fieldLink RX6 9 "NotInTheCoinModel" "s" "[I") (by decide +kernel)
  have hh5 := C0.2.2.2.2.1 (Cond.fieldLink RX6 105 "NotInTheCoinModel" "rowAt" "I") (by decide +kernel)
  have hh6 := C0.2.2.2.2.1 (Cond.fieldLink RX6 46 "NotInTheCoinModel" "size" "[I") (by decide +kernel)
  have hfX6_town_b161 : ∀  (a3 : Int32) (a4 : Int32) (σ : nS) (h : fX6_town_b161  a3 a4 σ = some (r, σ1)), nJ p l e rmX6_town s m args below meth c 0 0 (MQ below (nQi D B r σ1 s.heap.size) args s 0 0 (nA B s.heap.size)) D B 8 161 [(3, .int a3), (4, .int a4)] [] σ := by
    intro  a3 a4 σ h
    rw [fX6_town_b161] at h
    refine nx_iload C0 1 dX6_town_161 rfl ?_
    refine nx_if_ne (tgt := 170) C0 dX6_town_163 (by decide) (fun q => ?_) (fun q => ?_)
    · have h := niff q h
      refine nx_iload C0 1 dX6_town_170 rfl ?_
      exact nr_i2 C0 hr dX6_town_172 h
    · have h := nift q h
      refine nx_iload_n C0 0 dX6_town_166 rfl ?_
      refine nx_goto (tgt := 172) C0 dX6_town_167 (by decide) ?_
      exact nr_i2 C0 hr dX6_town_172 h
  have hfX6_town_b93 : ∀  (n : Nat) (a3 : Int32) (a4 : Int32) (σ : nS) (h : fX6_town_b93  n a3 a4 σ = some (r, σ1)), nJ p l e rmX6_town s m args below meth c 0 0 (MQ below (nQi D B r σ1 s.heap.size) args s 0 0 (nA B s.heap.size)) D B 8 93 [(0, .ref (na B 63)), (3, .int a3), (4, .int a4)] [] σ := by
    intro  n
    induction n with
    | zero => intro a3 a4 σ h; cases h
    | succ n ih =>
        intro a3 a4 σ h
        rw [fX6_town_b93] at h
        refine nx_iload C0 2 dX6_town_93 rfl ?_
        refine nx_if_ne (tgt := 161) C0 dX6_town_95 (by decide) (fun q => ?_) (fun q => ?_)
        · have h := niff q h
          refine nx_lv (lv' := [(3, .int a3), (4, .int a4)]) [1, 2] rfl ?_
          exact hfX6_town_b161 a3 a4 σ h
        · have h := nift q h
          refine nx_aload_n C0 0 dX6_town_98 rfl ?_
          refine nx_gX6_place C0 hh0 hh1 dX6_town_99 ?_
          refine nx_aload_n C0 0 dX6_town_102 rfl ?_
          refine nx_gX6_rowEnd C0 hh0 hh2 dX6_town_103 ?_
          refine nx_icmp_ge (tgt := 161) C0 dX6_town_106 (by decide) (fun q => ?_) (fun q => ?_)
          · have h := nift q h
            refine nx_lv (lv' := [(3, .int a3), (4, .int a4)]) [1, 2] rfl ?_
            exact hfX6_town_b161 a3 a4 σ h
          · have h := niff q h
            refine nx_aload_n C0 0 dX6_town_109 rfl ?_
            refine nx_gX6_place C0 hh0 hh1 dX6_town_110 ?_
            obtain ⟨v1, ev1, h⟩ := nlet h
            refine nx_istore (i := 5) (y := v1) (lv' := [(5, .int v1), (0, .ref (na B 63)), (3, .int a3), (4, .int a4)]) C0 dX6_town_113 (by decide) ev1 rfl ?_
            refine nx_aload_n C0 1 dX6_town_115 rfl ?_
            obtain ⟨r3, c2, h⟩ := nbind h
            refine nx_cVi (ci := 6) (n := 0) (As := []) (st := []) C0 (mX6_here l D B hB σ c2) gX6_town_X6_here rfl rfl rfl ndX6_here ⟨Nat.le_of_ble_eq_true rfl, Nat.le_of_ble_eq_true rfl⟩ (by decide) rfl rfl rfl rfl (Nat.le_of_ble_eq_true rfl) rfl dX6_town_116 ?_
            refine nx_istore (i := 6) (y := r3) (lv' := [(6, .int r3), (5, .int v1), (0, .ref (na B 63)), (3, .int a3), (4, .int a4)]) C0 dX6_town_119 (by decide) rfl rfl ?_
            refine nx_aload_n C0 2 dX6_town_121 rfl ?_
            obtain ⟨r5, t6, c4, h⟩ := nbind2 h
            refine nx_cVi (ci := 6) (n := 0) (As := []) (st := []) C0 (mX6_readsStatement l D B hB σ c4) gX6_town_X6_readsStatement rfl rfl rfl ndX6_readsStatement ⟨Nat.le_of_ble_eq_true rfl, Nat.le_of_ble_eq_true rfl⟩ (by decide) rfl rfl rfl rfl (Nat.le_of_ble_eq_true rfl) rfl dX6_town_122 ?_
            refine nx_istore (i := 7) (y := r5) (lv' := [(7, .int r5), (6, .int r3), (5, .int v1), (0, .ref (na B 63)), (3, .int a3), (4, .int a4)]) C0 dX6_town_125 (by decide) rfl rfl ?_
            refine nx_aload_n C0 3 dX6_town_127 rfl ?_
            refine nx_iload C0 1 dX6_town_128 rfl ?_
            obtain ⟨r8, t9, c7, h⟩ := nbind2 h
            refine nx_cVi (ci := 6) (n := 1) (As := [.int r3]) (st := []) C0 (mX6_isDone l D B hB r3 t6 c7) gX6_town_X6_isDone rfl rfl rfl ndX6_isDone ⟨Nat.le_of_ble_eq_true rfl, Nat.le_of_ble_eq_true rfl⟩ (by decide) rfl rfl rfl rfl (Nat.le_of_ble_eq_true rfl) rfl dX6_town_130 ?_
            refine nx_if_eq (tgt := 139) C0 dX6_town_133 (by decide) (fun q => ?_) (fun q => ?_)
            · have h := nift q h
              refine nx_sipush (v := -2000) C0 dX6_town_139 (by decide) ?_
              refine nx_iload C0 2 dX6_town_142 rfl ?_
              refine nx_isub C0 dX6_town_144 ?_
              obtain ⟨v10, ev10, h⟩ := nlet h
              refine nx_istore (i := 4) (y := v10) (lv' := [(4, .int v10), (7, .int r5), (6, .int r3), (5, .int v1), (0, .ref (na B 63)), (3, .int a3)]) C0 dX6_town_145 (by decide) ev10 rfl ?_
              refine nx_aload_n C0 4 dX6_town_147 rfl ?_
              refine nx_gX6_was C0 hh0 hh3 dX6_town_148 ?_
              refine nx_aload_n C0 4 dX6_town_151 rfl ?_
              refine nx_gX6_s C0 hh0 hh4 dX6_town_152 ?_
              obtain ⟨r12, t13, c11, h⟩ := nbind2 h
              refine nx_cSv (n := 2) (As := [.ref (na B 67), .ref (na B 64)]) (st := []) C0 (mX6_copies l D B hB nR67 nR64 t9 c11) gX6_town_X6_copies rfl rfl rfl ndX6_copies ⟨Nat.le_of_ble_eq_true rfl, Nat.le_of_ble_eq_true rfl⟩ rfl (Nat.le_of_ble_eq_true rfl) rfl dX6_town_155 ?_
              refine nx_goto (tgt := 93) C0 dX6_town_158 (by decide) ?_
              refine nx_lv (lv' := [(0, .ref (na B 63)), (3, .int a3), (4, .int v10)]) [4, 5, 0] rfl ?_
              exact ih a3 v10 t13 h
            · have h := niff q h
              refine nx_goto (tgt := 93) C0 dX6_town_136 (by decide) ?_
              refine nx_lv (lv' := [(0, .ref (na B 63)), (3, .int a3), (4, .int a4)]) [3, 4, 5] rfl ?_
              exact ih a3 a4 t9 h
  have hfX6_town_b77 : ∀  (a3 : Int32) (a4 : Int32) (σ : nS) (h : fX6_town_b77  a3 a4 σ = some (r, σ1)), nJ p l e rmX6_town s m args below meth c 0 0 (MQ below (nQi D B r σ1 s.heap.size) args s 0 0 (nA B s.heap.size)) D B 8 77 [(0, .ref (na B 63)), (3, .int a3), (4, .int a4)] [] σ := by
    intro  a3 a4 σ h
    rw [fX6_town_b77] at h
    refine nx_aload_n C0 0 dX6_town_77 rfl ?_
    refine nx_gX6_s C0 hh0 hh4 dX6_town_78 ?_
    refine nx_aload_n C0 0 dX6_town_81 rfl ?_
    refine nx_gX6_was C0 hh0 hh3 dX6_town_82 ?_
    obtain ⟨r15, t16, c14, h⟩ := nbind2 h
    refine nx_cSv (n := 2) (As := [.ref (na B 64), .ref (na B 67)]) (st := []) C0 (mX6_copies l D B hB nR64 nR67 σ c14) gX6_town_X6_copies rfl rfl rfl ndX6_copies ⟨Nat.le_of_ble_eq_true rfl, Nat.le_of_ble_eq_true rfl⟩ rfl (Nat.le_of_ble_eq_true rfl) rfl dX6_town_85 ?_
    refine nx_aload_n C0 0 dX6_town_88 rfl ?_
    refine nx_iconst (v := 0) C0 dX6_town_89 (by decide) ?_
    obtain ⟨t17, et17, h⟩ := nlet h
    refine nx_pX6_place C0 hh0 hh1 dX6_town_90 et17 ?_
    exact hfX6_town_b93 4096 a3 a4 t17 h
  have hfX6_town_b58 : ∀ (s41 : Int32 → Int32 → nS → Option (Int32 × nS)) (hs41 : ∀ (a3 : Int32) (a4 : Int32) (σ : nS), s41 a3 a4 σ = some (r, σ1) → nJ p l e rmX6_town s m args below meth c 0 0 (MQ below (nQi D B r σ1 s.heap.size) args s 0 0 (nA B s.heap.size)) D B 8 41 [(0, .ref (na B 63)), (3, .int a3), (4, .int a4)] [] σ) (a3 : Int32) (a4 : Int32) (σ : nS) (h : fX6_town_b58 s41 a3 a4 σ = some (r, σ1)), nJ p l e rmX6_town s m args below meth c 0 0 (MQ below (nQi D B r σ1 s.heap.size) args s 0 0 (nA B s.heap.size)) D B 8 58 [(0, .ref (na B 63)), (3, .int a3), (4, .int a4)] [] σ := by
    intro s41 hs41 a3 a4 σ h
    rw [fX6_town_b58] at h
    obtain ⟨v18, ev18, h⟩ := nlet h
    refine nx_iinc (v := v18) (lv' := [(3, .int v18), (0, .ref (na B 63)), (4, .int a4)]) C0 1 dX6_town_58 rfl ev18 (by decide) rfl ?_
    refine nx_iload C0 2 dX6_town_61 rfl ?_
    refine nx_if_ne (tgt := 77) C0 dX6_town_63 (by decide) (fun q => ?_) (fun q => ?_)
    · have h := niff q h
      refine nx_lv (lv' := [(0, .ref (na B 63)), (3, .int v18), (4, .int a4)]) [1, 0, 2] rfl ?_
      exact hfX6_town_b77 v18 a4 σ h
    · have h := nift q h
      refine nx_aload_n C0 1 dX6_town_66 rfl ?_
      refine nx_gX6_place C0 hh0 hh1 dX6_town_67 ?_
      refine nx_aload_n C0 1 dX6_town_70 rfl ?_
      refine nx_gX6_rowEnd C0 hh0 hh2 dX6_town_71 ?_
      refine nx_icmp_lt (tgt := 41) C0 dX6_town_74 (by decide) (fun q => ?_) (fun q => ?_)
      · have h := nift q h
        refine nx_lv (lv' := [(0, .ref (na B 63)), (3, .int v18), (4, .int a4)]) [1, 0, 2] rfl ?_
        exact hs41 v18 a4 σ h
      · have h := niff q h
        refine nx_lv (lv' := [(0, .ref (na B 63)), (3, .int v18), (4, .int a4)]) [1, 0, 2] rfl ?_
        exact hfX6_town_b77 v18 a4 σ h
  have hfX6_town_b41 : ∀  (n : Nat) (a3 : Int32) (a4 : Int32) (σ : nS) (h : fX6_town_b41  n a3 a4 σ = some (r, σ1)), nJ p l e rmX6_town s m args below meth c 0 0 (MQ below (nQi D B r σ1 s.heap.size) args s 0 0 (nA B s.heap.size)) D B 8 41 [(0, .ref (na B 63)), (3, .int a3), (4, .int a4)] [] σ := by
    intro  n
    induction n with
    | zero => intro a3 a4 σ h; cases h
    | succ n ih =>
        intro a3 a4 σ h
        rw [fX6_town_b41] at h
        refine nx_aload_n C0 0 dX6_town_41 rfl ?_
        obtain ⟨r20, t21, c19, h⟩ := nbind2 h
        refine nx_cVi (ci := 6) (n := 0) (As := []) (st := []) C0 (mX6_readsStatement l D B hB σ c19) gX6_town_X6_readsStatement rfl rfl rfl ndX6_readsStatement ⟨Nat.le_of_ble_eq_true rfl, Nat.le_of_ble_eq_true rfl⟩ (by decide) rfl rfl rfl rfl (Nat.le_of_ble_eq_true rfl) rfl dX6_town_42 ?_
        refine nx_if_ne (tgt := 58) C0 dX6_town_45 (by decide) (fun q => ?_) (fun q => ?_)
        · have h := niff q h
          exact hfX6_town_b58 (fX6_town_b41 n) ih a3 a4 t21 h
        · have h := nift q h
          refine nx_sipush (v := -1000) C0 dX6_town_48 (by decide) ?_
          refine nx_aload_n C0 0 dX6_town_51 rfl ?_
          refine nx_gX6_place C0 hh0 hh1 dX6_town_52 ?_
          refine nx_isub C0 dX6_town_55 ?_
          obtain ⟨v22, ev22, h⟩ := nlet h
          refine nx_istore (i := 4) (y := v22) (lv' := [(4, .int v22), (0, .ref (na B 63)), (3, .int a3)]) C0 dX6_town_56 (by decide) ev22 rfl ?_
          refine nx_lv (lv' := [(0, .ref (na B 63)), (3, .int a3), (4, .int v22)]) [1, 2, 0] rfl ?_
          exact hfX6_town_b58 (fX6_town_b41 n) ih a3 v22 t21 h
  refine nx_lv (lv' := [(0, .ref (na B 63)), (1, .int x1)]) [0, 1] rfl ?_
  rw [fX6_town] at h
  refine nx_aload_n C0 0 dX6_town_0 rfl ?_
  refine nx_iload_n C0 1 dX6_town_1 rfl ?_
  refine nx_iconst (v := 0) C0 dX6_town_2 (by decide) ?_
  obtain ⟨r24, c23, h⟩ := nbind h
  refine nx_cVi (ci := 6) (n := 2) (As := [.int x1, .int (0 : Int32)]) (st := []) C0 (mX6_wrongRow l D B hB x1 (0 : Int32) σ c23) gX6_town_X6_wrongRow rfl rfl rfl ndX6_wrongRow ⟨Nat.le_of_ble_eq_true rfl, Nat.le_of_ble_eq_true rfl⟩ (by decide) rfl rfl rfl rfl (Nat.le_of_ble_eq_true rfl) rfl dX6_town_3 ?_
  refine nx_istore_n (i := 2) (y := r24) (lv' := [(2, .int r24), (0, .ref (na B 63)), (1, .int x1)]) C0 dX6_town_6 rfl (by decide) rfl rfl ?_
  refine nx_iload_n C0 0 dX6_town_7 rfl ?_
  refine nx_if_eq (tgt := 13) C0 dX6_town_8 (by decide) (fun q => ?_) (fun q => ?_)
  · have h := nift q h
    refine nx_aload_n C0 1 dX6_town_13 rfl ?_
    refine nx_bipush (v := 100) C0 dX6_town_14 (by decide) ?_
    refine nx_iload_n C0 2 dX6_town_16 rfl ?_
    refine nx_imul C0 dX6_town_17 ?_
    obtain ⟨t25, et25, h⟩ := nlet h
    refine nx_pX6_rowAt C0 hh0 hh5 dX6_town_18 et25 ?_
    refine nx_aload_n C0 1 dX6_town_21 rfl ?_
    refine nx_aload_n C0 1 dX6_town_22 rfl ?_
    refine nx_gX6_size C0 hh0 hh6 dX6_town_23 ?_
    refine nx_iload_n C0 2 dX6_town_26 rfl ?_
    obtain ⟨g26, h⟩ := nguard h
    refine nx_iald C0 nI_76 g26 dX6_town_27 ?_
    obtain ⟨t27, et27, h⟩ := nlet h
    refine nx_pX6_rowEnd C0 hh0 hh2 dX6_town_28 et27 ?_
    refine nx_aload_n C0 1 dX6_town_31 rfl ?_
    refine nx_iconst (v := 0) C0 dX6_town_32 (by decide) ?_
    obtain ⟨t28, et28, h⟩ := nlet h
    refine nx_pX6_place C0 hh0 hh1 dX6_town_33 et28 ?_
    refine nx_iconst (v := 0) C0 dX6_town_36 (by decide) ?_
    refine nx_istore_n (i := 3) (y := (0 : Int32)) (lv' := [(3, .int (0 : Int32)), (2, .int r24), (0, .ref (na B 63)), (1, .int x1)]) C0 dX6_town_37 rfl (by decide) rfl rfl ?_
    refine nx_iconst (v := 0) C0 dX6_town_38 (by decide) ?_
    refine nx_istore (i := 4) (y := (0 : Int32)) (lv' := [(4, .int (0 : Int32)), (3, .int (0 : Int32)), (2, .int r24), (0, .ref (na B 63)), (1, .int x1)]) C0 dX6_town_39 (by decide) rfl rfl ?_
    refine nx_lv (lv' := [(0, .ref (na B 63)), (3, .int (0 : Int32)), (4, .int (0 : Int32))]) [3, 1, 0] rfl ?_
    exact hfX6_town_b41 4096 (0 : Int32) (0 : Int32) t28 h
  · have h := niff q h
    refine nx_iload_n C0 0 dX6_town_11 rfl ?_
    exact nr_i2 C0 hr dX6_town_12 h
def rmX6_good : Room := { frames := 2, cells := 0, slots := 0, locals := 43 }
theorem ndX6_good : yX6_good.cls = RX6 ∧ yX6_good.cls ≠ "java/lang/invoke/MethodHandle" ∧ yX6_good.cls ≠ "java/lang/invoke/VarHandle" ∧ (parseMethodDescriptor yX6_good.desc).map (fun d => d.parameters.length) = some 2 := by decide +kernel
set_option maxRecDepth 100000 in
set_option maxHeartbeats 4000000 in
theorem mX6_good (l : Launch) (D : va_G) (B : nBT) (hB : nInj B) (x1 : Int32) (x2 : Int32) (σ : nS) {r : Int32}  (h : fX6_good x1 x2 σ = some r) : nMi l D B yX6_good wsX6_good rmX6_good [.ref (na B 63), .int x1, .int x2] σ r σ := by
  refine nmet (cc := cX6_good) (maxL := 3) (ret := (some .int)) (own := RX6) (av := [.ref (na B 63), .int x1, .int x2]) (nQi D B r σ) hB (by decide) rfl rfl (Nat.le_of_ble_eq_true rfl) (fun p e s m args below meth c C0 hr => ?_)
  have hh0 : ∀ w ∈ wsX60, w ∈ wsX6_good := by decide +kernel
  have hh1 := C0.2.2.2.2.1 (Cond.fieldLink RX6 9 "NotInTheCoinModel" "s" "[I") (by decide +kernel)
  refine nx_lv (lv' := [(0, .ref (na B 63)), (1, .int x1), (2, .int x2)]) [0, 1, 2] rfl ?_
  rw [fX6_good] at h
  refine nx_aload_n C0 0 dX6_good_0 rfl ?_
  refine nx_iload_n C0 1 dX6_good_1 rfl ?_
  obtain ⟨r2, c1, h⟩ := nbind h
  refine nx_cVi (ci := 6) (n := 1) (As := [.int x1]) (st := []) C0 (mX6_isGood l D B hB x1 σ c1) gX6_good_X6_isGood rfl rfl rfl ndX6_isGood ⟨Nat.le_of_ble_eq_true rfl, Nat.le_of_ble_eq_true rfl⟩ (by decide) rfl rfl rfl rfl (Nat.le_of_ble_eq_true rfl) rfl dX6_good_2 ?_
  refine nx_if_eq (tgt := 17) C0 dX6_good_5 (by decide) (fun q => ?_) (fun q => ?_)
  · have h := nift q h
    refine nx_iconst (v := -1) C0 dX6_good_17 (by decide) ?_
    exact nr_i C0 hr dX6_good_18 h
  · have h := niff q h
    refine nx_iload_n C0 2 dX6_good_8 rfl ?_
    refine nx_iconst (v := 0) C0 dX6_good_9 (by decide) ?_
    refine nx_iconst (v := 3) C0 dX6_good_10 (by decide) ?_
    obtain ⟨r4, c3, h⟩ := nbind h
    refine nx_cSi (n := 3) (As := [.int x2, .int (0 : Int32), .int (3 : Int32)]) (st := []) C0 (mX6_isIn l D B hB x2 (0 : Int32) (3 : Int32) σ c3) gX6_good_X6_isIn rfl rfl rfl ndX6_isIn ⟨Nat.le_of_ble_eq_true rfl, Nat.le_of_ble_eq_true rfl⟩ rfl (Nat.le_of_ble_eq_true rfl) rfl dX6_good_11 ?_
    refine nx_if_ne (tgt := 19) C0 dX6_good_14 (by decide) (fun q => ?_) (fun q => ?_)
    · have h := niff q h
      refine nx_iload_n C0 2 dX6_good_19 rfl ?_
      refine nx_iconst (v := 3) C0 dX6_good_20 (by decide) ?_
      refine nx_icmp_ne (tgt := 46) C0 dX6_good_21 (by decide) (fun q => ?_) (fun q => ?_)
      · have h := niff q h
        refine nx_aload_n C0 0 dX6_good_46 rfl ?_
        refine nx_gX6_s C0 hh0 hh1 dX6_good_47 ?_
        refine nx_iload_n C0 1 dX6_good_50 rfl ?_
        obtain ⟨r6, c5, h⟩ := nbind h
        refine nx_cSi (n := 1) (As := [.int x1]) (st := [.ref (na B 64)]) C0 (mX6_ofG l D B hB x1 σ c5) gX6_good_X6_ofG rfl rfl rfl ndX6_ofG ⟨Nat.le_of_ble_eq_true rfl, Nat.le_of_ble_eq_true rfl⟩ rfl (Nat.le_of_ble_eq_true rfl) rfl dX6_good_51 ?_
        refine nx_iload_n C0 2 dX6_good_54 rfl ?_
        refine nx_iadd C0 dX6_good_55 ?_
        obtain ⟨g7, h⟩ := nguard h
        refine nx_iald C0 nI_64 g7 dX6_good_56 ?_
        exact nr_i C0 hr dX6_good_57 h
      · have h := nift q h
        refine nx_aload_n C0 0 dX6_good_24 rfl ?_
        refine nx_gX6_s C0 hh0 hh1 dX6_good_25 ?_
        refine nx_bipush (v := 66) C0 dX6_good_28 (by decide) ?_
        refine nx_aload_n C0 0 dX6_good_30 rfl ?_
        refine nx_gX6_s C0 hh0 hh1 dX6_good_31 ?_
        refine nx_iload_n C0 1 dX6_good_34 rfl ?_
        obtain ⟨r9, c8, h⟩ := nbind h
        refine nx_cSi (n := 1) (As := [.int x1]) (st := [.ref (na B 64), .int (66 : Int32), .ref (na B 64)]) C0 (mX6_ofG l D B hB x1 σ c8) gX6_good_X6_ofG rfl rfl rfl ndX6_ofG ⟨Nat.le_of_ble_eq_true rfl, Nat.le_of_ble_eq_true rfl⟩ rfl (Nat.le_of_ble_eq_true rfl) rfl dX6_good_35 ?_
        refine nx_iconst (v := 0) C0 dX6_good_38 (by decide) ?_
        refine nx_iadd C0 dX6_good_39 ?_
        obtain ⟨g10, h⟩ := nguard h
        refine nx_iald C0 nI_64 g10 dX6_good_40 ?_
        refine nx_iadd C0 dX6_good_41 ?_
        obtain ⟨g11, h⟩ := nguard h
        refine nx_iald C0 nI_64 g11 dX6_good_42 ?_
        refine nx_goto (tgt := 57) C0 dX6_good_43 (by decide) ?_
        exact nr_i C0 hr dX6_good_57 h
    · have h := nift q h
      refine nx_iconst (v := -1) C0 dX6_good_17 (by decide) ?_
      exact nr_i C0 hr dX6_good_18 h
def rmX6_ownedBy : Room := { frames := 1, cells := 0, slots := 0, locals := 20 }
theorem ndX6_ownedBy : yX6_ownedBy.cls ≠ "java/lang/invoke/MethodHandle" ∧ yX6_ownedBy.cls ≠ "java/lang/invoke/VarHandle" ∧ (parseMethodDescriptor yX6_ownedBy.desc).map (fun d => d.parameters.length) = some 2 := by decide +kernel
set_option maxRecDepth 100000 in
set_option maxHeartbeats 4000000 in
theorem mX6_ownedBy (l : Launch) (D : va_G) (B : nBT) (hB : nInj B) {k0 : Nat} (hk0 : nR k0) (x1 : Int32) (σ : nS) {r : Int32}  (h : fX6_ownedBy k0 x1 σ = some r) : nMi l D B yX6_ownedBy wsX6_ownedBy rmX6_ownedBy [.ref (na B k0), .int x1] σ r σ := by
  refine nmet (cc := cX6_ownedBy) (maxL := 4) (ret := (some .int)) (own := RX6) (av := [.ref (na B k0), .int x1]) (nQi D B r σ) hB (by decide) rfl rfl (Nat.le_of_ble_eq_true rfl) (fun p e s m args below meth c C0 hr => ?_)
  have hfX6_ownedBy_b4 : ∀  (n : Nat) (k_0 : Nat) (hk_0 : nR k_0) (a1 : Int32) (a2 : Int32) (a3 : Int32) (h : fX6_ownedBy_b4  n k_0 a1 a2 a3 σ = some r), nJ p l e rmX6_ownedBy s m args below meth c 0 0 (MQ below (nQi D B r σ s.heap.size) args s 0 0 (nA B s.heap.size)) D B 4 4 [(0, .ref (na B k_0)), (1, .int a1), (2, .int a2), (3, .int a3)] [] σ := by
    intro  n
    induction n with
    | zero => intro k_0 hk_0 a1 a2 a3 h; cases h
    | succ n ih =>
        intro k_0 hk_0 a1 a2 a3 h
        rw [fX6_ownedBy_b4] at h
        refine nx_iload_n C0 3 dX6_ownedBy_4 rfl ?_
        refine nx_aload_n C0 0 dX6_ownedBy_5 rfl ?_
        refine nx_iconst (v := 0) C0 dX6_ownedBy_6 (by decide) ?_
        obtain ⟨g1, h⟩ := nguard h
        refine nx_iald C0 (nR_c hk_0) g1 dX6_ownedBy_7 ?_
        refine nx_icmp_ge (tgt := 39) C0 dX6_ownedBy_8 (by decide) (fun q => ?_) (fun q => ?_)
        · have h := nift q h
          refine nx_iload_n C0 2 dX6_ownedBy_39 rfl ?_
          exact nr_i C0 hr dX6_ownedBy_40 h
        · have h := niff q h
          refine nx_iload_n C0 2 dX6_ownedBy_11 rfl ?_
          refine nx_aload_n C0 0 dX6_ownedBy_12 rfl ?_
          refine nx_iload_n C0 3 dX6_ownedBy_13 rfl ?_
          obtain ⟨r3, c2, h⟩ := nbind h
          refine nx_cSi (n := 1) (As := [.int a3]) (st := [.ref (na B k_0), .int a2]) C0 (mX6_ofG l D B hB a3 σ c2) gX6_ownedBy_X6_ofG rfl rfl rfl ndX6_ofG ⟨Nat.le_of_ble_eq_true rfl, Nat.le_of_ble_eq_true rfl⟩ rfl (Nat.le_of_ble_eq_true rfl) rfl dX6_ownedBy_14 ?_
          refine nx_iconst (v := 2) C0 dX6_ownedBy_17 (by decide) ?_
          refine nx_iadd C0 dX6_ownedBy_18 ?_
          obtain ⟨g4, h⟩ := nguard h
          refine nx_iald C0 (nR_c hk_0) g4 dX6_ownedBy_19 ?_
          refine nx_iload_n C0 1 dX6_ownedBy_20 rfl ?_
          refine nx_icmp_ne (tgt := 30) C0 dX6_ownedBy_21 (by decide) (fun q => ?_) (fun q => ?_)
          · have h := niff q h
            refine nx_iconst (v := 0) C0 dX6_ownedBy_30 (by decide) ?_
            refine nx_ior C0 dX6_ownedBy_31 ?_
            obtain ⟨v5, ev5, h⟩ := nlet h
            refine nx_istore_n (i := 2) (y := v5) (lv' := [(2, .int v5), (0, .ref (na B k_0)), (1, .int a1), (3, .int a3)]) C0 dX6_ownedBy_32 rfl (by decide) ev5 rfl ?_
            obtain ⟨v6, ev6, h⟩ := nlet h
            refine nx_iinc (v := v6) (lv' := [(3, .int v6), (2, .int v5), (0, .ref (na B k_0)), (1, .int a1)]) C0 3 dX6_ownedBy_33 rfl ev6 (by decide) rfl ?_
            refine nx_goto (tgt := 4) C0 dX6_ownedBy_36 (by decide) ?_
            refine nx_lv (lv' := [(0, .ref (na B k_0)), (1, .int a1), (2, .int v5), (3, .int v6)]) [2, 3, 1, 0] rfl ?_
            exact ih k_0 hk_0 a1 v5 v6 h
          · have h := nift q h
            refine nx_iconst (v := 1) C0 dX6_ownedBy_24 (by decide) ?_
            refine nx_iload_n C0 3 dX6_ownedBy_25 rfl ?_
            refine nx_ishl C0 dX6_ownedBy_26 ?_
            refine nx_goto (tgt := 31) C0 dX6_ownedBy_27 (by decide) ?_
            refine nx_ior C0 dX6_ownedBy_31 ?_
            obtain ⟨v7, ev7, h⟩ := nlet h
            refine nx_istore_n (i := 2) (y := v7) (lv' := [(2, .int v7), (0, .ref (na B k_0)), (1, .int a1), (3, .int a3)]) C0 dX6_ownedBy_32 rfl (by decide) ev7 rfl ?_
            obtain ⟨v8, ev8, h⟩ := nlet h
            refine nx_iinc (v := v8) (lv' := [(3, .int v8), (2, .int v7), (0, .ref (na B k_0)), (1, .int a1)]) C0 3 dX6_ownedBy_33 rfl ev8 (by decide) rfl ?_
            refine nx_goto (tgt := 4) C0 dX6_ownedBy_36 (by decide) ?_
            refine nx_lv (lv' := [(0, .ref (na B k_0)), (1, .int a1), (2, .int v7), (3, .int v8)]) [2, 3, 1, 0] rfl ?_
            exact ih k_0 hk_0 a1 v7 v8 h
  refine nx_lv (lv' := [(0, .ref (na B k0)), (1, .int x1)]) [0, 1] rfl ?_
  rw [fX6_ownedBy] at h
  refine nx_iconst (v := 0) C0 dX6_ownedBy_0 (by decide) ?_
  refine nx_istore_n (i := 2) (y := (0 : Int32)) (lv' := [(2, .int (0 : Int32)), (0, .ref (na B k0)), (1, .int x1)]) C0 dX6_ownedBy_1 rfl (by decide) rfl rfl ?_
  refine nx_iconst (v := 0) C0 dX6_ownedBy_2 (by decide) ?_
  refine nx_istore_n (i := 3) (y := (0 : Int32)) (lv' := [(3, .int (0 : Int32)), (2, .int (0 : Int32)), (0, .ref (na B k0)), (1, .int x1)]) C0 dX6_ownedBy_3 rfl (by decide) rfl rfl ?_
  refine nx_lv (lv' := [(0, .ref (na B k0)), (1, .int x1), (2, .int (0 : Int32)), (3, .int (0 : Int32))]) [2, 3, 1, 0] rfl ?_
  exact hfX6_ownedBy_b4 4096 k0 hk0 x1 (0 : Int32) (0 : Int32) h
def rmX6_richesOf : Room := { frames := 3, cells := 0, slots := 0, locals := 67 }
theorem ndX6_richesOf : yX6_richesOf.cls ≠ "java/lang/invoke/MethodHandle" ∧ yX6_richesOf.cls ≠ "java/lang/invoke/VarHandle" ∧ (parseMethodDescriptor yX6_richesOf.desc).map (fun d => d.parameters.length) = some 2 := by decide +kernel
set_option maxRecDepth 100000 in
set_option maxHeartbeats 4000000 in
theorem mX6_richesOf (l : Launch) (D : va_G) (B : nBT) (hB : nInj B) {k0 : Nat} (hk0 : nR k0) (x1 : Int32) (σ : nS) {r : Int32}  (h : fX6_richesOf k0 x1 σ = some r) : nMi l D B yX6_richesOf wsX6_richesOf rmX6_richesOf [.ref (na B k0), .int x1] σ r σ := by
  refine nmet (cc := cX6_richesOf) (maxL := 4) (ret := (some .int)) (own := RX6) (av := [.ref (na B k0), .int x1]) (nQi D B r σ) hB (by decide) rfl rfl (Nat.le_of_ble_eq_true rfl) (fun p e s m args below meth c C0 hr => ?_)
  have hfX6_richesOf_b4 : ∀  (n : Nat) (k_0 : Nat) (hk_0 : nR k_0) (a1 : Int32) (a2 : Int32) (a3 : Int32) (h : fX6_richesOf_b4  n k_0 a1 a2 a3 σ = some r), nJ p l e rmX6_richesOf s m args below meth c 0 0 (MQ below (nQi D B r σ s.heap.size) args s 0 0 (nA B s.heap.size)) D B 4 4 [(0, .ref (na B k_0)), (1, .int a1), (2, .int a2), (3, .int a3)] [] σ := by
    intro  n
    induction n with
    | zero => intro k_0 hk_0 a1 a2 a3 h; cases h
    | succ n ih =>
        intro k_0 hk_0 a1 a2 a3 h
        rw [fX6_richesOf_b4] at h
        refine nx_iload_n C0 3 dX6_richesOf_4 rfl ?_
        refine nx_aload_n C0 0 dX6_richesOf_5 rfl ?_
        refine nx_iconst (v := 0) C0 dX6_richesOf_6 (by decide) ?_
        obtain ⟨g1, h⟩ := nguard h
        refine nx_iald C0 (nR_c hk_0) g1 dX6_richesOf_7 ?_
        refine nx_icmp_ge (tgt := 42) C0 dX6_richesOf_8 (by decide) (fun q => ?_) (fun q => ?_)
        · have h := nift q h
          refine nx_iload_n C0 2 dX6_richesOf_42 rfl ?_
          exact nr_i C0 hr dX6_richesOf_43 h
        · have h := niff q h
          refine nx_iload_n C0 2 dX6_richesOf_11 rfl ?_
          refine nx_aload_n C0 0 dX6_richesOf_12 rfl ?_
          refine nx_iload_n C0 3 dX6_richesOf_13 rfl ?_
          obtain ⟨r3, c2, h⟩ := nbind h
          refine nx_cSi (n := 1) (As := [.int a3]) (st := [.ref (na B k_0), .int a2]) C0 (mX6_ofG l D B hB a3 σ c2) gX6_richesOf_X6_ofG rfl rfl rfl ndX6_ofG ⟨Nat.le_of_ble_eq_true rfl, Nat.le_of_ble_eq_true rfl⟩ rfl (Nat.le_of_ble_eq_true rfl) rfl dX6_richesOf_14 ?_
          refine nx_iconst (v := 2) C0 dX6_richesOf_17 (by decide) ?_
          refine nx_iadd C0 dX6_richesOf_18 ?_
          obtain ⟨g4, h⟩ := nguard h
          refine nx_iald C0 (nR_c hk_0) g4 dX6_richesOf_19 ?_
          refine nx_iload_n C0 1 dX6_richesOf_20 rfl ?_
          refine nx_icmp_ne (tgt := 33) C0 dX6_richesOf_21 (by decide) (fun q => ?_) (fun q => ?_)
          · have h := niff q h
            refine nx_iconst (v := 0) C0 dX6_richesOf_33 (by decide) ?_
            refine nx_iadd C0 dX6_richesOf_34 ?_
            obtain ⟨v5, ev5, h⟩ := nlet h
            refine nx_istore_n (i := 2) (y := v5) (lv' := [(2, .int v5), (0, .ref (na B k_0)), (1, .int a1), (3, .int a3)]) C0 dX6_richesOf_35 rfl (by decide) ev5 rfl ?_
            obtain ⟨v6, ev6, h⟩ := nlet h
            refine nx_iinc (v := v6) (lv' := [(3, .int v6), (2, .int v5), (0, .ref (na B k_0)), (1, .int a1)]) C0 3 dX6_richesOf_36 rfl ev6 (by decide) rfl ?_
            refine nx_goto (tgt := 4) C0 dX6_richesOf_39 (by decide) ?_
            refine nx_lv (lv' := [(0, .ref (na B k_0)), (1, .int a1), (2, .int v5), (3, .int v6)]) [2, 3, 1, 0] rfl ?_
            exact ih k_0 hk_0 a1 v5 v6 h
          · have h := nift q h
            refine nx_aload_n C0 0 dX6_richesOf_24 rfl ?_
            refine nx_iload_n C0 1 dX6_richesOf_25 rfl ?_
            refine nx_iload_n C0 3 dX6_richesOf_26 rfl ?_
            obtain ⟨r8, c7, h⟩ := nbind h
            refine nx_cSi (n := 3) (As := [.ref (na B k_0), .int a1, .int a3]) (st := [.int a2]) C0 (mX6_worthIn l D B hB hk_0 a1 a3 σ c7) gX6_richesOf_X6_worthIn rfl rfl rfl ndX6_worthIn ⟨Nat.le_of_ble_eq_true rfl, Nat.le_of_ble_eq_true rfl⟩ rfl (Nat.le_of_ble_eq_true rfl) rfl dX6_richesOf_27 ?_
            refine nx_goto (tgt := 34) C0 dX6_richesOf_30 (by decide) ?_
            refine nx_iadd C0 dX6_richesOf_34 ?_
            obtain ⟨v9, ev9, h⟩ := nlet h
            refine nx_istore_n (i := 2) (y := v9) (lv' := [(2, .int v9), (0, .ref (na B k_0)), (1, .int a1), (3, .int a3)]) C0 dX6_richesOf_35 rfl (by decide) ev9 rfl ?_
            obtain ⟨v10, ev10, h⟩ := nlet h
            refine nx_iinc (v := v10) (lv' := [(3, .int v10), (2, .int v9), (0, .ref (na B k_0)), (1, .int a1)]) C0 3 dX6_richesOf_36 rfl ev10 (by decide) rfl ?_
            refine nx_goto (tgt := 4) C0 dX6_richesOf_39 (by decide) ?_
            refine nx_lv (lv' := [(0, .ref (na B k_0)), (1, .int a1), (2, .int v9), (3, .int v10)]) [2, 3, 1, 0] rfl ?_
            exact ih k_0 hk_0 a1 v9 v10 h
  refine nx_lv (lv' := [(0, .ref (na B k0)), (1, .int x1)]) [0, 1] rfl ?_
  rw [fX6_richesOf] at h
  refine nx_iconst (v := 0) C0 dX6_richesOf_0 (by decide) ?_
  refine nx_istore_n (i := 2) (y := (0 : Int32)) (lv' := [(2, .int (0 : Int32)), (0, .ref (na B k0)), (1, .int x1)]) C0 dX6_richesOf_1 rfl (by decide) rfl rfl ?_
  refine nx_iconst (v := 0) C0 dX6_richesOf_2 (by decide) ?_
  refine nx_istore_n (i := 3) (y := (0 : Int32)) (lv' := [(3, .int (0 : Int32)), (2, .int (0 : Int32)), (0, .ref (na B k0)), (1, .int x1)]) C0 dX6_richesOf_3 rfl (by decide) rfl rfl ?_
  refine nx_lv (lv' := [(0, .ref (na B k0)), (1, .int x1), (2, .int (0 : Int32)), (3, .int (0 : Int32))]) [2, 3, 1, 0] rfl ?_
  exact hfX6_richesOf_b4 4096 k0 hk0 x1 (0 : Int32) (0 : Int32) h
def rmX6_person : Room := { frames := 4, cells := 0, slots := 0, locals := 90 }
theorem ndX6_person : yX6_person.cls = RX6 ∧ yX6_person.cls ≠ "java/lang/invoke/MethodHandle" ∧ yX6_person.cls ≠ "java/lang/invoke/VarHandle" ∧ (parseMethodDescriptor yX6_person.desc).map (fun d => d.parameters.length) = some 2 := by decide +kernel
set_option maxRecDepth 100000 in
set_option maxHeartbeats 4000000 in
theorem mX6_person (l : Launch) (D : va_G) (B : nBT) (hB : nInj B) (x1 : Int32) (x2 : Int32) (σ : nS) {r : Int32}  (h : fX6_person x1 x2 σ = some r) : nMi l D B yX6_person wsX6_person rmX6_person [.ref (na B 63), .int x1, .int x2] σ r σ := by
  refine nmet (cc := cX6_person) (maxL := 3) (ret := (some .int)) (own := RX6) (av := [.ref (na B 63), .int x1, .int x2]) (nQi D B r σ) hB (by decide) rfl rfl (Nat.le_of_ble_eq_true rfl) (fun p e s m args below meth c C0 hr => ?_)
  have hh0 : ∀ w ∈ wsX60, w ∈ wsX6_person := by decide +kernel
  have hh1 := C0.2.2.2.2.1 (Cond.fieldLink RX6 9 "NotInTheCoinModel" "s" "[I") (by decide +kernel)
  refine nx_lv (lv' := [(0, .ref (na B 63)), (1, .int x1), (2, .int x2)]) [0, 1, 2] rfl ?_
  rw [fX6_person] at h
  refine nx_aload_n C0 0 dX6_person_0 rfl ?_
  refine nx_iload_n C0 1 dX6_person_1 rfl ?_
  obtain ⟨r2, c1, h⟩ := nbind h
  refine nx_cVi (ci := 6) (n := 1) (As := [.int x1]) (st := []) C0 (mX6_isPerson l D B hB x1 σ c1) gX6_person_X6_isPerson rfl rfl rfl ndX6_isPerson ⟨Nat.le_of_ble_eq_true rfl, Nat.le_of_ble_eq_true rfl⟩ (by decide) rfl rfl rfl rfl (Nat.le_of_ble_eq_true rfl) rfl dX6_person_2 ?_
  refine nx_if_eq (tgt := 17) C0 dX6_person_5 (by decide) (fun q => ?_) (fun q => ?_)
  · have h := nift q h
    refine nx_iconst (v := -1) C0 dX6_person_17 (by decide) ?_
    exact nr_i C0 hr dX6_person_18 h
  · have h := niff q h
    refine nx_iload_n C0 2 dX6_person_8 rfl ?_
    refine nx_iconst (v := 0) C0 dX6_person_9 (by decide) ?_
    refine nx_iconst (v := 2) C0 dX6_person_10 (by decide) ?_
    obtain ⟨r4, c3, h⟩ := nbind h
    refine nx_cSi (n := 3) (As := [.int x2, .int (0 : Int32), .int (2 : Int32)]) (st := []) C0 (mX6_isIn l D B hB x2 (0 : Int32) (2 : Int32) σ c3) gX6_person_X6_isIn rfl rfl rfl ndX6_isIn ⟨Nat.le_of_ble_eq_true rfl, Nat.le_of_ble_eq_true rfl⟩ rfl (Nat.le_of_ble_eq_true rfl) rfl dX6_person_11 ?_
    refine nx_if_ne (tgt := 19) C0 dX6_person_14 (by decide) (fun q => ?_) (fun q => ?_)
    · have h := niff q h
      refine nx_iload_n C0 2 dX6_person_19 rfl ?_
      refine nx_if_ne (tgt := 35) C0 dX6_person_20 (by decide) (fun q => ?_) (fun q => ?_)
      · have h := niff q h
        refine nx_iload_n C0 2 dX6_person_35 rfl ?_
        refine nx_iconst (v := 1) C0 dX6_person_36 (by decide) ?_
        refine nx_icmp_ne (tgt := 51) C0 dX6_person_37 (by decide) (fun q => ?_) (fun q => ?_)
        · have h := niff q h
          refine nx_aload_n C0 0 dX6_person_51 rfl ?_
          refine nx_gX6_s C0 hh0 hh1 dX6_person_52 ?_
          refine nx_iload_n C0 1 dX6_person_55 rfl ?_
          obtain ⟨r6, c5, h⟩ := nbind h
          refine nx_cSi (n := 2) (As := [.ref (na B 64), .int x1]) (st := []) C0 (mX6_richesOf l D B hB nR64 x1 σ c5) gX6_person_X6_richesOf rfl rfl rfl ndX6_richesOf ⟨Nat.le_of_ble_eq_true rfl, Nat.le_of_ble_eq_true rfl⟩ rfl (Nat.le_of_ble_eq_true rfl) rfl dX6_person_56 ?_
          exact nr_i C0 hr dX6_person_59 h
        · have h := nift q h
          refine nx_aload_n C0 0 dX6_person_40 rfl ?_
          refine nx_gX6_s C0 hh0 hh1 dX6_person_41 ?_
          refine nx_iload_n C0 1 dX6_person_44 rfl ?_
          obtain ⟨r8, c7, h⟩ := nbind h
          refine nx_cSi (n := 2) (As := [.ref (na B 64), .int x1]) (st := []) C0 (mX6_ownedBy l D B hB nR64 x1 σ c7) gX6_person_X6_ownedBy rfl rfl rfl ndX6_ownedBy ⟨Nat.le_of_ble_eq_true rfl, Nat.le_of_ble_eq_true rfl⟩ rfl (Nat.le_of_ble_eq_true rfl) rfl dX6_person_45 ?_
          refine nx_goto (tgt := 59) C0 dX6_person_48 (by decide) ?_
          exact nr_i C0 hr dX6_person_59 h
      · have h := nift q h
        refine nx_aload_n C0 0 dX6_person_23 rfl ?_
        refine nx_gX6_s C0 hh0 hh1 dX6_person_24 ?_
        refine nx_bipush (v := 28) C0 dX6_person_27 (by decide) ?_
        refine nx_iload_n C0 1 dX6_person_29 rfl ?_
        refine nx_iadd C0 dX6_person_30 ?_
        obtain ⟨g9, h⟩ := nguard h
        refine nx_iald C0 nI_64 g9 dX6_person_31 ?_
        refine nx_goto (tgt := 59) C0 dX6_person_32 (by decide) ?_
        exact nr_i C0 hr dX6_person_59 h
    · have h := nift q h
      refine nx_iconst (v := -1) C0 dX6_person_17 (by decide) ?_
      exact nr_i C0 hr dX6_person_18 h
def rmX6_loan : Room := { frames := 2, cells := 0, slots := 0, locals := 43 }
theorem ndX6_loan : yX6_loan.cls = RX6 ∧ yX6_loan.cls ≠ "java/lang/invoke/MethodHandle" ∧ yX6_loan.cls ≠ "java/lang/invoke/VarHandle" ∧ (parseMethodDescriptor yX6_loan.desc).map (fun d => d.parameters.length) = some 2 := by decide +kernel
set_option maxRecDepth 100000 in
set_option maxHeartbeats 4000000 in
theorem mX6_loan (l : Launch) (D : va_G) (B : nBT) (hB : nInj B) (x1 : Int32) (x2 : Int32) (σ : nS) {r : Int32}  (h : fX6_loan x1 x2 σ = some r) : nMi l D B yX6_loan wsX6_loan rmX6_loan [.ref (na B 63), .int x1, .int x2] σ r σ := by
  refine nmet (cc := cX6_loan) (maxL := 3) (ret := (some .int)) (own := RX6) (av := [.ref (na B 63), .int x1, .int x2]) (nQi D B r σ) hB (by decide) rfl rfl (Nat.le_of_ble_eq_true rfl) (fun p e s m args below meth c C0 hr => ?_)
  have hh0 : ∀ w ∈ wsX60, w ∈ wsX6_loan := by decide +kernel
  have hh1 := C0.2.2.2.2.1 (Cond.fieldLink RX6 9 "NotInTheCoinModel" "s" "[I") (by decide +kernel)
  refine nx_lv (lv' := [(0, .ref (na B 63)), (1, .int x1), (2, .int x2)]) [0, 1, 2] rfl ?_
  rw [fX6_loan] at h
  refine nx_aload_n C0 0 dX6_loan_0 rfl ?_
  refine nx_iload_n C0 1 dX6_loan_1 rfl ?_
  obtain ⟨r2, c1, h⟩ := nbind h
  refine nx_cVi (ci := 6) (n := 1) (As := [.int x1]) (st := []) C0 (mX6_isLoan l D B hB x1 σ c1) gX6_loan_X6_isLoan rfl rfl rfl ndX6_isLoan ⟨Nat.le_of_ble_eq_true rfl, Nat.le_of_ble_eq_true rfl⟩ (by decide) rfl rfl rfl rfl (Nat.le_of_ble_eq_true rfl) rfl dX6_loan_2 ?_
  refine nx_if_eq (tgt := 31) C0 dX6_loan_5 (by decide) (fun q => ?_) (fun q => ?_)
  · have h := nift q h
    refine nx_iconst (v := -1) C0 dX6_loan_31 (by decide) ?_
    exact nr_i C0 hr dX6_loan_32 h
  · have h := niff q h
    refine nx_iload_n C0 2 dX6_loan_8 rfl ?_
    refine nx_iconst (v := 0) C0 dX6_loan_9 (by decide) ?_
    refine nx_iconst (v := 3) C0 dX6_loan_10 (by decide) ?_
    obtain ⟨r4, c3, h⟩ := nbind h
    refine nx_cSi (n := 3) (As := [.int x2, .int (0 : Int32), .int (3 : Int32)]) (st := []) C0 (mX6_isIn l D B hB x2 (0 : Int32) (3 : Int32) σ c3) gX6_loan_X6_isIn rfl rfl rfl ndX6_isIn ⟨Nat.le_of_ble_eq_true rfl, Nat.le_of_ble_eq_true rfl⟩ rfl (Nat.le_of_ble_eq_true rfl) rfl dX6_loan_11 ?_
    refine nx_if_eq (tgt := 31) C0 dX6_loan_14 (by decide) (fun q => ?_) (fun q => ?_)
    · have h := nift q h
      refine nx_iconst (v := -1) C0 dX6_loan_31 (by decide) ?_
      exact nr_i C0 hr dX6_loan_32 h
    · have h := niff q h
      refine nx_aload_n C0 0 dX6_loan_17 rfl ?_
      refine nx_gX6_s C0 hh0 hh1 dX6_loan_18 ?_
      refine nx_iload_n C0 1 dX6_loan_21 rfl ?_
      obtain ⟨r6, c5, h⟩ := nbind h
      refine nx_cSi (n := 1) (As := [.int x1]) (st := [.ref (na B 64)]) C0 (mX6_ofL l D B hB x1 σ c5) gX6_loan_X6_ofL rfl rfl rfl ndX6_ofL ⟨Nat.le_of_ble_eq_true rfl, Nat.le_of_ble_eq_true rfl⟩ rfl (Nat.le_of_ble_eq_true rfl) rfl dX6_loan_22 ?_
      refine nx_iload_n C0 2 dX6_loan_25 rfl ?_
      refine nx_iadd C0 dX6_loan_26 ?_
      obtain ⟨g7, h⟩ := nguard h
      refine nx_iald C0 nI_64 g7 dX6_loan_27 ?_
      refine nx_goto (tgt := 32) C0 dX6_loan_28 (by decide) ?_
      exact nr_i C0 hr dX6_loan_32 h
def rmX6_comes : Room := { frames := 1, cells := 0, slots := 0, locals := 22 }
theorem ndX6_comes : yX6_comes.cls = RX6 ∧ yX6_comes.cls ≠ "java/lang/invoke/MethodHandle" ∧ yX6_comes.cls ≠ "java/lang/invoke/VarHandle" ∧ (parseMethodDescriptor yX6_comes.desc).map (fun d => d.parameters.length) = some 1 := by decide +kernel
set_option maxRecDepth 100000 in
set_option maxHeartbeats 4000000 in
theorem mX6_comes (l : Launch) (D : va_G) (B : nBT) (hB : nInj B) (x1 : Int32) (σ : nS) {r : Int32} {σ1 : nS} (h : fX6_comes x1 σ = some (r, σ1)) : nMi l D B yX6_comes wsX6_comes rmX6_comes [.ref (na B 63), .int x1] σ r σ1 := by
  refine nmet (cc := cX6_comes) (maxL := 2) (ret := (some .int)) (own := RX6) (av := [.ref (na B 63), .int x1]) (nQi D B r σ1) hB (by decide) rfl rfl (Nat.le_of_ble_eq_true rfl) (fun p e s m args below meth c C0 hr => ?_)
  have hh0 : ∀ w ∈ wsX60, w ∈ wsX6_comes := by decide +kernel
  have hh1 := C0.2.2.2.2.1 (Cond.fieldLink RX6 9 "NotInTheCoinModel" "s" "[I") (by decide +kernel)
  refine nx_lv (lv' := [(0, .ref (na B 63)), (1, .int x1)]) [0, 1] rfl ?_
  rw [fX6_comes] at h
  refine nx_iload_n C0 1 dX6_comes_0 rfl ?_
  refine nx_iconst (v := 0) C0 dX6_comes_1 (by decide) ?_
  refine nx_bipush (v := 9) C0 dX6_comes_2 (by decide) ?_
  obtain ⟨r2, c1, h⟩ := nbind h
  refine nx_cSi (n := 3) (As := [.int x1, .int (0 : Int32), .int (9 : Int32)]) (st := []) C0 (mX6_isIn l D B hB x1 (0 : Int32) (9 : Int32) σ c1) gX6_comes_X6_isIn rfl rfl rfl ndX6_isIn ⟨Nat.le_of_ble_eq_true rfl, Nat.le_of_ble_eq_true rfl⟩ rfl (Nat.le_of_ble_eq_true rfl) rfl dX6_comes_4 ?_
  refine nx_if_ne (tgt := 12) C0 dX6_comes_7 (by decide) (fun q => ?_) (fun q => ?_)
  · have h := niff q h
    refine nx_aload_n C0 0 dX6_comes_12 rfl ?_
    refine nx_iload_n C0 1 dX6_comes_13 rfl ?_
    obtain ⟨r4, t5, c3, h⟩ := nbind2 h
    refine nx_cVi (ci := 6) (n := 1) (As := [.int x1]) (st := []) C0 (mX6_addsPerson l D B hB x1 σ c3) gX6_comes_X6_addsPerson rfl rfl rfl ndX6_addsPerson ⟨Nat.le_of_ble_eq_true rfl, Nat.le_of_ble_eq_true rfl⟩ (by decide) rfl rfl rfl rfl (Nat.le_of_ble_eq_true rfl) rfl dX6_comes_14 ?_
    refine nx_if_eq (tgt := 31) C0 dX6_comes_17 (by decide) (fun q => ?_) (fun q => ?_)
    · have h := nift q h
      refine nx_bipush (v := -2) C0 dX6_comes_31 (by decide) ?_
      exact nr_i2 C0 hr dX6_comes_33 h
    · have h := niff q h
      refine nx_aload_n C0 0 dX6_comes_20 rfl ?_
      refine nx_gX6_s C0 hh0 hh1 dX6_comes_21 ?_
      refine nx_iconst (v := 1) C0 dX6_comes_24 (by decide) ?_
      obtain ⟨g6, h⟩ := nguard h
      refine nx_iald C0 nI_64 g6 dX6_comes_25 ?_
      refine nx_iconst (v := 1) C0 dX6_comes_26 (by decide) ?_
      refine nx_isub C0 dX6_comes_27 ?_
      refine nx_goto (tgt := 33) C0 dX6_comes_28 (by decide) ?_
      exact nr_i2 C0 hr dX6_comes_33 h
  · have h := nift q h
    refine nx_iconst (v := -1) C0 dX6_comes_10 (by decide) ?_
    exact nr_i2 C0 hr dX6_comes_11 h
def rmX6_wrongKept : Room := { frames := 2, cells := 0, slots := 0, locals := 42 }
theorem ndX6_wrongKept : yX6_wrongKept.cls = RX6 ∧ yX6_wrongKept.cls ≠ "java/lang/invoke/MethodHandle" ∧ yX6_wrongKept.cls ≠ "java/lang/invoke/VarHandle" ∧ (parseMethodDescriptor yX6_wrongKept.desc).map (fun d => d.parameters.length) = some 1 := by decide +kernel
set_option maxRecDepth 100000 in
set_option maxHeartbeats 4000000 in
theorem mX6_wrongKept (l : Launch) (D : va_G) (B : nBT) (hB : nInj B) (x1 : Int32) (σ : nS) {r : Int32}  (h : fX6_wrongKept x1 σ = some r) : nMi l D B yX6_wrongKept wsX6_wrongKept rmX6_wrongKept [.ref (na B 63), .int x1] σ r σ := by
  refine nmet (cc := cX6_wrongKept) (maxL := 2) (ret := (some .int)) (own := RX6) (av := [.ref (na B 63), .int x1]) (nQi D B r σ) hB (by decide) rfl rfl (Nat.le_of_ble_eq_true rfl) (fun p e s m args below meth c C0 hr => ?_)
  have hh0 : ∀ w ∈ wsX60, w ∈ wsX6_wrongKept := by decide +kernel
  have hh1 := C0.2.2.2.2.1 (Cond.fieldLink RX6 34 "NotInTheCoinModel" "kept" "[I") (by decide +kernel)
  refine nx_lv (lv' := [(0, .ref (na B 63)), (1, .int x1)]) [0, 1] rfl ?_
  rw [fX6_wrongKept] at h
  refine nx_iload_n C0 1 dX6_wrongKept_0 rfl ?_
  obtain ⟨r2, c1, h⟩ := nbind h
  refine nx_cSi (n := 1) (As := [.int x1]) (st := []) C0 (mX6_isShelf l D B hB x1 σ c1) gX6_wrongKept_X6_isShelf rfl rfl rfl ndX6_isShelf ⟨Nat.le_of_ble_eq_true rfl, Nat.le_of_ble_eq_true rfl⟩ rfl (Nat.le_of_ble_eq_true rfl) rfl dX6_wrongKept_1 ?_
  refine nx_if_ne (tgt := 11) C0 dX6_wrongKept_4 (by decide) (fun q => ?_) (fun q => ?_)
  · have h := niff q h
    refine nx_aload_n C0 0 dX6_wrongKept_11 rfl ?_
    refine nx_gX6_kept C0 hh0 hh1 dX6_wrongKept_12 ?_
    refine nx_iload_n C0 1 dX6_wrongKept_15 rfl ?_
    obtain ⟨g3, h⟩ := nguard h
    refine nx_iald C0 nI_72 g3 dX6_wrongKept_16 ?_
    refine nx_if_ne (tgt := 25) C0 dX6_wrongKept_17 (by decide) (fun q => ?_) (fun q => ?_)
    · have h := niff q h
      refine nx_aload_n C0 0 dX6_wrongKept_25 rfl ?_
      refine nx_gX6_kept C0 hh0 hh1 dX6_wrongKept_26 ?_
      refine nx_iload_n C0 1 dX6_wrongKept_29 rfl ?_
      obtain ⟨g4, h⟩ := nguard h
      refine nx_iald C0 nI_72 g4 dX6_wrongKept_30 ?_
      refine nx_iconst (v := 2) C0 dX6_wrongKept_31 (by decide) ?_
      refine nx_icmp_ne (tgt := 40) C0 dX6_wrongKept_32 (by decide) (fun q => ?_) (fun q => ?_)
      · have h := niff q h
        refine nx_iconst (v := 0) C0 dX6_wrongKept_40 (by decide) ?_
        exact nr_i C0 hr dX6_wrongKept_41 h
      · have h := nift q h
        refine nx_bipush (v := -12) C0 dX6_wrongKept_35 (by decide) ?_
        refine nx_goto (tgt := 41) C0 dX6_wrongKept_37 (by decide) ?_
        exact nr_i C0 hr dX6_wrongKept_41 h
    · have h := nift q h
      refine nx_bipush (v := -11) C0 dX6_wrongKept_20 (by decide) ?_
      refine nx_goto (tgt := 41) C0 dX6_wrongKept_22 (by decide) ?_
      exact nr_i C0 hr dX6_wrongKept_41 h
  · have h := nift q h
    refine nx_iconst (v := -1) C0 dX6_wrongKept_7 (by decide) ?_
    refine nx_goto (tgt := 41) C0 dX6_wrongKept_8 (by decide) ?_
    exact nr_i C0 hr dX6_wrongKept_41 h
def rmX6_brings : Room := { frames := 3, cells := 0, slots := 0, locals := 63 }
theorem ndX6_brings : yX6_brings.cls = RX6 ∧ yX6_brings.cls ≠ "java/lang/invoke/MethodHandle" ∧ yX6_brings.cls ≠ "java/lang/invoke/VarHandle" ∧ (parseMethodDescriptor yX6_brings.desc).map (fun d => d.parameters.length) = some 2 := by decide +kernel
set_option maxRecDepth 100000 in
set_option maxHeartbeats 4000000 in
theorem mX6_brings (l : Launch) (D : va_G) (B : nBT) (hB : nInj B) (x1 : Int32) (x2 : Int32) (σ : nS) {r : Int32} {σ1 : nS} (h : fX6_brings x1 x2 σ = some (r, σ1)) : nMi l D B yX6_brings wsX6_brings rmX6_brings [.ref (na B 63), .int x1, .int x2] σ r σ1 := by
  refine nmet (cc := cX6_brings) (maxL := 4) (ret := (some .int)) (own := RX6) (av := [.ref (na B 63), .int x1, .int x2]) (nQi D B r σ1) hB (by decide) rfl rfl (Nat.le_of_ble_eq_true rfl) (fun p e s m args below meth c C0 hr => ?_)
  have hh0 : ∀ w ∈ wsX60, w ∈ wsX6_brings := by decide +kernel
  have hh1 := C0.2.2.2.2.1 (Cond.fieldLink RX6 9 "NotInTheCoinModel" "s" "[I") (by decide +kernel)
  have hh2 := C0.2.2.2.2.1 (Cond.fieldLink RX6 37 "NotInTheCoinModel" "keptKind" "[I") (by decide +kernel)
  have hh3 := C0.2.2.2.2.1 (Cond.fieldLink RX6 40 "NotInTheCoinModel" "keptFigure" "[I") (by decide +kernel)
  refine nx_lv (lv' := [(0, .ref (na B 63)), (1, .int x1), (2, .int x2)]) [0, 1, 2] rfl ?_
  rw [fX6_brings] at h
  refine nx_aload_n C0 0 dX6_brings_0 rfl ?_
  refine nx_iload_n C0 2 dX6_brings_1 rfl ?_
  obtain ⟨r2, c1, h⟩ := nbind h
  refine nx_cVi (ci := 6) (n := 1) (As := [.int x2]) (st := []) C0 (mX6_isPerson l D B hB x2 σ c1) gX6_brings_X6_isPerson rfl rfl rfl ndX6_isPerson ⟨Nat.le_of_ble_eq_true rfl, Nat.le_of_ble_eq_true rfl⟩ (by decide) rfl rfl rfl rfl (Nat.le_of_ble_eq_true rfl) rfl dX6_brings_2 ?_
  refine nx_if_ne (tgt := 10) C0 dX6_brings_5 (by decide) (fun q => ?_) (fun q => ?_)
  · have h := niff q h
    refine nx_aload_n C0 0 dX6_brings_10 rfl ?_
    refine nx_iload_n C0 1 dX6_brings_11 rfl ?_
    obtain ⟨r4, c3, h⟩ := nbind h
    refine nx_cVi (ci := 6) (n := 1) (As := [.int x1]) (st := []) C0 (mX6_wrongKept l D B hB x1 σ c3) gX6_brings_X6_wrongKept rfl rfl rfl ndX6_wrongKept ⟨Nat.le_of_ble_eq_true rfl, Nat.le_of_ble_eq_true rfl⟩ (by decide) rfl rfl rfl rfl (Nat.le_of_ble_eq_true rfl) rfl dX6_brings_12 ?_
    refine nx_istore_n (i := 3) (y := r4) (lv' := [(3, .int r4), (0, .ref (na B 63)), (1, .int x1), (2, .int x2)]) C0 dX6_brings_15 rfl (by decide) rfl rfl ?_
    refine nx_iload_n C0 0 dX6_brings_16 rfl ?_
    refine nx_if_eq (tgt := 22) C0 dX6_brings_17 (by decide) (fun q => ?_) (fun q => ?_)
    · have h := nift q h
      refine nx_aload_n C0 1 dX6_brings_22 rfl ?_
      refine nx_gX6_s C0 hh0 hh1 dX6_brings_23 ?_
      refine nx_iconst (v := 0) C0 dX6_brings_26 (by decide) ?_
      obtain ⟨g5, h⟩ := nguard h
      refine nx_iald C0 nI_64 g5 dX6_brings_27 ?_
      refine nx_bipush (v := 8) C0 dX6_brings_28 (by decide) ?_
      refine nx_icmp_ne (tgt := 36) C0 dX6_brings_30 (by decide) (fun q => ?_) (fun q => ?_)
      · have h := niff q h
        refine nx_aload_n C0 1 dX6_brings_36 rfl ?_
        refine nx_aload_n C0 1 dX6_brings_37 rfl ?_
        refine nx_gX6_keptKind C0 hh0 hh2 dX6_brings_38 ?_
        refine nx_iload_n C0 2 dX6_brings_41 rfl ?_
        obtain ⟨g6, h⟩ := nguard h
        refine nx_iald C0 nI_73 g6 dX6_brings_42 ?_
        refine nx_aload_n C0 1 dX6_brings_43 rfl ?_
        refine nx_gX6_keptFigure C0 hh0 hh3 dX6_brings_44 ?_
        refine nx_iload_n C0 2 dX6_brings_47 rfl ?_
        obtain ⟨g7, h⟩ := nguard h
        refine nx_iald C0 nI_74 g7 dX6_brings_48 ?_
        refine nx_iload_n C0 3 dX6_brings_49 rfl ?_
        obtain ⟨r9, t10, c8, h⟩ := nbind2 h
        refine nx_cVv (ci := 6) (n := 3) (As := [.int (σ 73 (x1).toNatClampNeg), .int (σ 74 (x1).toNatClampNeg), .int x2]) (st := []) C0 (mX6_addsGood l D B hB (σ 73 (x1).toNatClampNeg) (σ 74 (x1).toNatClampNeg) x2 σ c8) gX6_brings_X6_addsGood rfl rfl rfl ndX6_addsGood ⟨Nat.le_of_ble_eq_true rfl, Nat.le_of_ble_eq_true rfl⟩ (by decide) rfl rfl rfl rfl (Nat.le_of_ble_eq_true rfl) rfl dX6_brings_50 ?_
        refine nx_aload_n C0 1 dX6_brings_53 rfl ?_
        refine nx_gX6_s C0 hh0 hh1 dX6_brings_54 ?_
        refine nx_iconst (v := 0) C0 dX6_brings_57 (by decide) ?_
        obtain ⟨g11, h⟩ := nguard h
        refine nx_iald C0 nI_64 g11 dX6_brings_58 ?_
        refine nx_iconst (v := 1) C0 dX6_brings_59 (by decide) ?_
        refine nx_isub C0 dX6_brings_60 ?_
        exact nr_i2 C0 hr dX6_brings_61 h
      · have h := nift q h
        refine nx_bipush (v := -2) C0 dX6_brings_33 (by decide) ?_
        exact nr_i2 C0 hr dX6_brings_35 h
    · have h := niff q h
      refine nx_iload_n C0 0 dX6_brings_20 rfl ?_
      exact nr_i2 C0 hr dX6_brings_21 h
  · have h := nift q h
    refine nx_iconst (v := -1) C0 dX6_brings_8 (by decide) ?_
    exact nr_i2 C0 hr dX6_brings_9 h
def rmX6_lends : Room := { frames := 2, cells := 0, slots := 0, locals := 43 }
theorem ndX6_lends : yX6_lends.cls = RX6 ∧ yX6_lends.cls ≠ "java/lang/invoke/MethodHandle" ∧ yX6_lends.cls ≠ "java/lang/invoke/VarHandle" ∧ (parseMethodDescriptor yX6_lends.desc).map (fun d => d.parameters.length) = some 2 := by decide +kernel
set_option maxRecDepth 100000 in
set_option maxHeartbeats 4000000 in
theorem mX6_lends (l : Launch) (D : va_G) (B : nBT) (hB : nInj B) (x1 : Int32) (x2 : Int32) (σ : nS) {r : Int32} {σ1 : nS} (h : fX6_lends x1 x2 σ = some (r, σ1)) : nMi l D B yX6_lends wsX6_lends rmX6_lends [.ref (na B 63), .int x1, .int x2] σ r σ1 := by
  refine nmet (cc := cX6_lends) (maxL := 3) (ret := (some .int)) (own := RX6) (av := [.ref (na B 63), .int x1, .int x2]) (nQi D B r σ1) hB (by decide) rfl rfl (Nat.le_of_ble_eq_true rfl) (fun p e s m args below meth c C0 hr => ?_)
  have hh0 : ∀ w ∈ wsX60, w ∈ wsX6_lends := by decide +kernel
  have hh1 := C0.2.2.2.2.1 (Cond.fieldLink RX6 9 "NotInTheCoinModel" "s" "[I") (by decide +kernel)
  refine nx_lv (lv' := [(0, .ref (na B 63)), (1, .int x1), (2, .int x2)]) [0, 1, 2] rfl ?_
  rw [fX6_lends] at h
  refine nx_aload_n C0 0 dX6_lends_0 rfl ?_
  refine nx_iload_n C0 1 dX6_lends_1 rfl ?_
  obtain ⟨r2, c1, h⟩ := nbind h
  refine nx_cVi (ci := 6) (n := 1) (As := [.int x1]) (st := []) C0 (mX6_isGood l D B hB x1 σ c1) gX6_lends_X6_isGood rfl rfl rfl ndX6_isGood ⟨Nat.le_of_ble_eq_true rfl, Nat.le_of_ble_eq_true rfl⟩ (by decide) rfl rfl rfl rfl (Nat.le_of_ble_eq_true rfl) rfl dX6_lends_2 ?_
  refine nx_if_eq (tgt := 16) C0 dX6_lends_5 (by decide) (fun q => ?_) (fun q => ?_)
  · have h := nift q h
    refine nx_iconst (v := -1) C0 dX6_lends_16 (by decide) ?_
    exact nr_i2 C0 hr dX6_lends_17 h
  · have h := niff q h
    refine nx_aload_n C0 0 dX6_lends_8 rfl ?_
    refine nx_iload_n C0 2 dX6_lends_9 rfl ?_
    obtain ⟨r4, c3, h⟩ := nbind h
    refine nx_cVi (ci := 6) (n := 1) (As := [.int x2]) (st := []) C0 (mX6_isPerson l D B hB x2 σ c3) gX6_lends_X6_isPerson rfl rfl rfl ndX6_isPerson ⟨Nat.le_of_ble_eq_true rfl, Nat.le_of_ble_eq_true rfl⟩ (by decide) rfl rfl rfl rfl (Nat.le_of_ble_eq_true rfl) rfl dX6_lends_10 ?_
    refine nx_if_ne (tgt := 18) C0 dX6_lends_13 (by decide) (fun q => ?_) (fun q => ?_)
    · have h := niff q h
      refine nx_aload_n C0 0 dX6_lends_18 rfl ?_
      refine nx_gX6_s C0 hh0 hh1 dX6_lends_19 ?_
      refine nx_iload_n C0 1 dX6_lends_22 rfl ?_
      obtain ⟨r6, c5, h⟩ := nbind h
      refine nx_cSi (n := 1) (As := [.int x1]) (st := [.ref (na B 64)]) C0 (mX6_ofG l D B hB x1 σ c5) gX6_lends_X6_ofG rfl rfl rfl ndX6_ofG ⟨Nat.le_of_ble_eq_true rfl, Nat.le_of_ble_eq_true rfl⟩ rfl (Nat.le_of_ble_eq_true rfl) rfl dX6_lends_23 ?_
      refine nx_iconst (v := 2) C0 dX6_lends_26 (by decide) ?_
      refine nx_iadd C0 dX6_lends_27 ?_
      obtain ⟨g7, h⟩ := nguard h
      refine nx_iald C0 nI_64 g7 dX6_lends_28 ?_
      refine nx_iload_n C0 2 dX6_lends_29 rfl ?_
      refine nx_icmp_ne (tgt := 36) C0 dX6_lends_30 (by decide) (fun q => ?_) (fun q => ?_)
      · have h := niff q h
        refine nx_aload_n C0 0 dX6_lends_36 rfl ?_
        refine nx_gX6_s C0 hh0 hh1 dX6_lends_37 ?_
        refine nx_iconst (v := 2) C0 dX6_lends_40 (by decide) ?_
        obtain ⟨g8, h⟩ := nguard h
        refine nx_iald C0 nI_64 g8 dX6_lends_41 ?_
        refine nx_bipush (v := 8) C0 dX6_lends_42 (by decide) ?_
        refine nx_icmp_ne (tgt := 50) C0 dX6_lends_44 (by decide) (fun q => ?_) (fun q => ?_)
        · have h := niff q h
          refine nx_aload_n C0 0 dX6_lends_50 rfl ?_
          refine nx_iload_n C0 1 dX6_lends_51 rfl ?_
          refine nx_iload_n C0 2 dX6_lends_52 rfl ?_
          obtain ⟨r10, t11, c9, h⟩ := nbind2 h
          refine nx_cVv (ci := 6) (n := 2) (As := [.int x1, .int x2]) (st := []) C0 (mX6_addsLoan l D B hB x1 x2 σ c9) gX6_lends_X6_addsLoan rfl rfl rfl ndX6_addsLoan ⟨Nat.le_of_ble_eq_true rfl, Nat.le_of_ble_eq_true rfl⟩ (by decide) rfl rfl rfl rfl (Nat.le_of_ble_eq_true rfl) rfl dX6_lends_53 ?_
          refine nx_aload_n C0 0 dX6_lends_56 rfl ?_
          refine nx_gX6_s C0 hh0 hh1 dX6_lends_57 ?_
          refine nx_iconst (v := 2) C0 dX6_lends_60 (by decide) ?_
          obtain ⟨g12, h⟩ := nguard h
          refine nx_iald C0 nI_64 g12 dX6_lends_61 ?_
          refine nx_iconst (v := 1) C0 dX6_lends_62 (by decide) ?_
          refine nx_isub C0 dX6_lends_63 ?_
          exact nr_i2 C0 hr dX6_lends_64 h
        · have h := nift q h
          refine nx_bipush (v := -2) C0 dX6_lends_47 (by decide) ?_
          exact nr_i2 C0 hr dX6_lends_49 h
      · have h := nift q h
        refine nx_bipush (v := -3) C0 dX6_lends_33 (by decide) ?_
        exact nr_i2 C0 hr dX6_lends_35 h
    · have h := nift q h
      refine nx_iconst (v := -1) C0 dX6_lends_16 (by decide) ?_
      exact nr_i2 C0 hr dX6_lends_17 h
def rmX6_pays : Room := { frames := 5, cells := 0, slots := 0, locals := 112 }
theorem ndX6_pays : yX6_pays.cls = RX6 ∧ yX6_pays.cls ≠ "java/lang/invoke/MethodHandle" ∧ yX6_pays.cls ≠ "java/lang/invoke/VarHandle" ∧ (parseMethodDescriptor yX6_pays.desc).map (fun d => d.parameters.length) = some 2 := by decide +kernel
set_option maxRecDepth 100000 in
set_option maxHeartbeats 4000000 in
theorem mX6_pays (l : Launch) (D : va_G) (B : nBT) (hB : nInj B) (x1 : Int32) (x2 : Int32) (σ : nS) {r : Int32} {σ1 : nS} (h : fX6_pays x1 x2 σ = some (r, σ1)) : nMi l D B yX6_pays wsX6_pays rmX6_pays [.ref (na B 63), .int x1, .int x2] σ r σ1 := by
  refine nmet (cc := cX6_pays) (maxL := 3) (ret := (some .int)) (own := RX6) (av := [.ref (na B 63), .int x1, .int x2]) (nQi D B r σ1) hB (by decide) rfl rfl (Nat.le_of_ble_eq_true rfl) (fun p e s m args below meth c C0 hr => ?_)
  have hh0 : ∀ w ∈ wsX60, w ∈ wsX6_pays := by decide +kernel
  have hh1 := C0.2.2.2.2.1 (Cond.fieldLink RX6 9 "NotInTheCoinModel" "s" "[I") (by decide +kernel)
  refine nx_lv (lv' := [(0, .ref (na B 63)), (1, .int x1), (2, .int x2)]) [0, 1, 2] rfl ?_
  rw [fX6_pays] at h
  refine nx_aload_n C0 0 dX6_pays_0 rfl ?_
  refine nx_iload_n C0 1 dX6_pays_1 rfl ?_
  obtain ⟨r2, c1, h⟩ := nbind h
  refine nx_cVi (ci := 6) (n := 1) (As := [.int x1]) (st := []) C0 (mX6_isLoan l D B hB x1 σ c1) gX6_pays_X6_isLoan rfl rfl rfl ndX6_isLoan ⟨Nat.le_of_ble_eq_true rfl, Nat.le_of_ble_eq_true rfl⟩ (by decide) rfl rfl rfl rfl (Nat.le_of_ble_eq_true rfl) rfl dX6_pays_2 ?_
  refine nx_if_eq (tgt := 16) C0 dX6_pays_5 (by decide) (fun q => ?_) (fun q => ?_)
  · have h := nift q h
    refine nx_iconst (v := -1) C0 dX6_pays_16 (by decide) ?_
    exact nr_i2 C0 hr dX6_pays_17 h
  · have h := niff q h
    refine nx_aload_n C0 0 dX6_pays_8 rfl ?_
    refine nx_iload_n C0 2 dX6_pays_9 rfl ?_
    obtain ⟨r4, c3, h⟩ := nbind h
    refine nx_cVi (ci := 6) (n := 1) (As := [.int x2]) (st := []) C0 (mX6_isGood l D B hB x2 σ c3) gX6_pays_X6_isGood rfl rfl rfl ndX6_isGood ⟨Nat.le_of_ble_eq_true rfl, Nat.le_of_ble_eq_true rfl⟩ (by decide) rfl rfl rfl rfl (Nat.le_of_ble_eq_true rfl) rfl dX6_pays_10 ?_
    refine nx_if_ne (tgt := 18) C0 dX6_pays_13 (by decide) (fun q => ?_) (fun q => ?_)
    · have h := niff q h
      refine nx_aload_n C0 0 dX6_pays_18 rfl ?_
      refine nx_gX6_s C0 hh0 hh1 dX6_pays_19 ?_
      refine nx_iload_n C0 1 dX6_pays_22 rfl ?_
      refine nx_iload_n C0 2 dX6_pays_23 rfl ?_
      obtain ⟨r6, c5, h⟩ := nbind h
      refine nx_cSi (n := 3) (As := [.ref (na B 64), .int x1, .int x2]) (st := []) C0 (mX6_canPayIn l D B hB nR64 x1 x2 σ c5) gX6_pays_X6_canPayIn rfl rfl rfl ndX6_canPayIn ⟨Nat.le_of_ble_eq_true rfl, Nat.le_of_ble_eq_true rfl⟩ rfl (Nat.le_of_ble_eq_true rfl) rfl dX6_pays_24 ?_
      refine nx_if_ne (tgt := 33) C0 dX6_pays_27 (by decide) (fun q => ?_) (fun q => ?_)
      · have h := niff q h
        refine nx_aload_n C0 0 dX6_pays_33 rfl ?_
        refine nx_gX6_s C0 hh0 hh1 dX6_pays_34 ?_
        refine nx_iload_n C0 1 dX6_pays_37 rfl ?_
        refine nx_iload_n C0 2 dX6_pays_38 rfl ?_
        obtain ⟨r8, t9, c7, h⟩ := nbind2 h
        refine nx_cSv (n := 3) (As := [.ref (na B 64), .int x1, .int x2]) (st := []) C0 (mX6_paysIn l D B hB nR64 x1 x2 σ c7) gX6_pays_X6_paysIn rfl rfl rfl ndX6_paysIn ⟨Nat.le_of_ble_eq_true rfl, Nat.le_of_ble_eq_true rfl⟩ rfl (Nat.le_of_ble_eq_true rfl) rfl dX6_pays_39 ?_
        refine nx_aload_n C0 0 dX6_pays_42 rfl ?_
        refine nx_gX6_s C0 hh0 hh1 dX6_pays_43 ?_
        obtain ⟨r11, c10, h⟩ := nbind h
        refine nx_cSi (n := 1) (As := [.ref (na B 64)]) (st := []) C0 (mX6_openIn l D B hB nR64 t9 c10) gX6_pays_X6_openIn rfl rfl rfl ndX6_openIn ⟨Nat.le_of_ble_eq_true rfl, Nat.le_of_ble_eq_true rfl⟩ rfl (Nat.le_of_ble_eq_true rfl) rfl dX6_pays_46 ?_
        obtain ⟨r13, c12, h⟩ := nbind h
        refine nx_cSi (n := 1) (As := [.int r11]) (st := []) C0 (mX6_bits l D B hB r11 t9 c12) gX6_pays_X6_bits rfl rfl rfl ndX6_bits ⟨Nat.le_of_ble_eq_true rfl, Nat.le_of_ble_eq_true rfl⟩ rfl (Nat.le_of_ble_eq_true rfl) rfl dX6_pays_49 ?_
        exact nr_i2 C0 hr dX6_pays_52 h
      · have h := nift q h
        refine nx_bipush (v := -3) C0 dX6_pays_30 (by decide) ?_
        exact nr_i2 C0 hr dX6_pays_32 h
    · have h := nift q h
      refine nx_iconst (v := -1) C0 dX6_pays_16 (by decide) ?_
      exact nr_i2 C0 hr dX6_pays_17 h
def rmX6_sames : Room := { frames := 1, cells := 0, slots := 0, locals := 22 }
theorem ndX6_sames : yX6_sames.cls = RX6 ∧ yX6_sames.cls ≠ "java/lang/invoke/MethodHandle" ∧ yX6_sames.cls ≠ "java/lang/invoke/VarHandle" ∧ (parseMethodDescriptor yX6_sames.desc).map (fun d => d.parameters.length) = some 2 := by decide +kernel
set_option maxRecDepth 100000 in
set_option maxHeartbeats 4000000 in
theorem mX6_sames (l : Launch) (D : va_G) (B : nBT) (hB : nInj B) (x1 : Int32) (x2 : Int32) (σ : nS) {r : Int32} {σ1 : nS} (h : fX6_sames x1 x2 σ = some (r, σ1)) : nMi l D B yX6_sames wsX6_sames rmX6_sames [.ref (na B 63), .int x1, .int x2] σ r σ1 := by
  refine nmet (cc := cX6_sames) (maxL := 4) (ret := (some .int)) (own := RX6) (av := [.ref (na B 63), .int x1, .int x2]) (nQi D B r σ1) hB (by decide) rfl rfl (Nat.le_of_ble_eq_true rfl) (fun p e s m args below meth c C0 hr => ?_)
  have hh0 : ∀ w ∈ wsX60, w ∈ wsX6_sames := by decide +kernel
  have hh1 := C0.2.2.2.2.1 (Cond.fieldLink RX6 9 "NotInTheCoinModel" "s" "[I") (by decide +kernel)
  refine nx_lv (lv' := [(0, .ref (na B 63)), (1, .int x1), (2, .int x2)]) [0, 1, 2] rfl ?_
  rw [fX6_sames] at h
  refine nx_iload_n C0 1 dX6_sames_0 rfl ?_
  refine nx_iconst (v := 0) C0 dX6_sames_1 (by decide) ?_
  refine nx_bipush (v := 7) C0 dX6_sames_2 (by decide) ?_
  obtain ⟨r2, c1, h⟩ := nbind h
  refine nx_cSi (n := 3) (As := [.int x1, .int (0 : Int32), .int (7 : Int32)]) (st := []) C0 (mX6_isIn l D B hB x1 (0 : Int32) (7 : Int32) σ c1) gX6_sames_X6_isIn rfl rfl rfl ndX6_isIn ⟨Nat.le_of_ble_eq_true rfl, Nat.le_of_ble_eq_true rfl⟩ rfl (Nat.le_of_ble_eq_true rfl) rfl dX6_sames_4 ?_
  refine nx_if_eq (tgt := 20) C0 dX6_sames_7 (by decide) (fun q => ?_) (fun q => ?_)
  · have h := nift q h
    refine nx_iconst (v := -1) C0 dX6_sames_20 (by decide) ?_
    exact nr_i2 C0 hr dX6_sames_21 h
  · have h := niff q h
    refine nx_iload_n C0 2 dX6_sames_10 rfl ?_
    refine nx_iconst (v := 0) C0 dX6_sames_11 (by decide) ?_
    refine nx_bipush (v := 7) C0 dX6_sames_12 (by decide) ?_
    obtain ⟨r4, c3, h⟩ := nbind h
    refine nx_cSi (n := 3) (As := [.int x2, .int (0 : Int32), .int (7 : Int32)]) (st := []) C0 (mX6_isIn l D B hB x2 (0 : Int32) (7 : Int32) σ c3) gX6_sames_X6_isIn rfl rfl rfl ndX6_isIn ⟨Nat.le_of_ble_eq_true rfl, Nat.le_of_ble_eq_true rfl⟩ rfl (Nat.le_of_ble_eq_true rfl) rfl dX6_sames_14 ?_
    refine nx_if_ne (tgt := 22) C0 dX6_sames_17 (by decide) (fun q => ?_) (fun q => ?_)
    · have h := niff q h
      refine nx_aload_n C0 0 dX6_sames_22 rfl ?_
      refine nx_gX6_s C0 hh0 hh1 dX6_sames_23 ?_
      refine nx_bipush (v := 66) C0 dX6_sames_26 (by decide) ?_
      refine nx_iload_n C0 2 dX6_sames_28 rfl ?_
      refine nx_iadd C0 dX6_sames_29 ?_
      obtain ⟨g5, h⟩ := nguard h
      refine nx_iald C0 nI_64 g5 dX6_sames_30 ?_
      obtain ⟨v6, ev6, h⟩ := nlet h
      refine nx_istore_n (i := 3) (y := v6) (lv' := [(3, .int v6), (0, .ref (na B 63)), (1, .int x1), (2, .int x2)]) C0 dX6_sames_31 rfl (by decide) ev6 rfl ?_
      refine nx_aload_n C0 1 dX6_sames_32 rfl ?_
      refine nx_gX6_s C0 hh0 hh1 dX6_sames_33 ?_
      refine nx_bipush (v := 66) C0 dX6_sames_36 (by decide) ?_
      refine nx_iload_n C0 3 dX6_sames_38 rfl ?_
      refine nx_iadd C0 dX6_sames_39 ?_
      refine nx_aload_n C0 1 dX6_sames_40 rfl ?_
      refine nx_gX6_s C0 hh0 hh1 dX6_sames_41 ?_
      refine nx_bipush (v := 66) C0 dX6_sames_44 (by decide) ?_
      refine nx_iload_n C0 2 dX6_sames_46 rfl ?_
      refine nx_iadd C0 dX6_sames_47 ?_
      obtain ⟨g7, h⟩ := nguard h
      refine nx_iald C0 nI_64 g7 dX6_sames_48 ?_
      obtain ⟨g8, h⟩ := nguard h
      obtain ⟨t9, et9, h⟩ := nlet h
      refine nx_iast C0 nI_64 g8 dX6_sames_49 et9 ?_
      refine nx_iload_n C0 0 dX6_sames_50 rfl ?_
      exact nr_i2 C0 hr dX6_sames_51 h
    · have h := nift q h
      refine nx_iconst (v := -1) C0 dX6_sames_20 (by decide) ?_
      exact nr_i2 C0 hr dX6_sames_21 h
def rmX6_weeks : Room := { frames := 8, cells := 0, slots := 0, locals := 180 }
theorem ndX6_weeks : yX6_weeks.cls = RX6 ∧ yX6_weeks.cls ≠ "java/lang/invoke/MethodHandle" ∧ yX6_weeks.cls ≠ "java/lang/invoke/VarHandle" ∧ (parseMethodDescriptor yX6_weeks.desc).map (fun d => d.parameters.length) = some 1 := by decide +kernel
set_option maxRecDepth 100000 in
set_option maxHeartbeats 4000000 in
theorem mX6_weeks (l : Launch) (D : va_G) (B : nBT) (hB : nInj B) (x1 : Int32) (σ : nS) {r : Int32} {σ1 : nS} (h : fX6_weeks x1 σ = some (r, σ1)) : nMi l D B yX6_weeks wsX6_weeks rmX6_weeks [.ref (na B 63), .int x1] σ r σ1 := by
  refine nmet (cc := cX6_weeks) (maxL := 2) (ret := (some .int)) (own := RX6) (av := [.ref (na B 63), .int x1]) (nQi D B r σ1) hB (by decide) rfl rfl (Nat.le_of_ble_eq_true rfl) (fun p e s m args below meth c C0 hr => ?_)
  have hh0 : ∀ w ∈ wsX60, w ∈ wsX6_weeks := by decide +kernel
  have hh1 := C0.2.2.2.2.1 (Cond.fieldLink RX6 9 "NotInTheCoinModel" "s" "[I") (by decide +kernel)
  refine nx_lv (lv' := [(0, .ref (na B 63)), (1, .int x1)]) [0, 1] rfl ?_
  rw [fX6_weeks] at h
  refine nx_iload_n C0 1 dX6_weeks_0 rfl ?_
  refine nx_iconst (v := 1) C0 dX6_weeks_1 (by decide) ?_
  refine nx_bipush (v := 60) C0 dX6_weeks_2 (by decide) ?_
  obtain ⟨r2, c1, h⟩ := nbind h
  refine nx_cSi (n := 3) (As := [.int x1, .int (1 : Int32), .int (60 : Int32)]) (st := []) C0 (mX6_isIn l D B hB x1 (1 : Int32) (60 : Int32) σ c1) gX6_weeks_X6_isIn rfl rfl rfl ndX6_isIn ⟨Nat.le_of_ble_eq_true rfl, Nat.le_of_ble_eq_true rfl⟩ rfl (Nat.le_of_ble_eq_true rfl) rfl dX6_weeks_4 ?_
  refine nx_if_ne (tgt := 12) C0 dX6_weeks_7 (by decide) (fun q => ?_) (fun q => ?_)
  · have h := niff q h
    refine nx_aload_n C0 0 dX6_weeks_12 rfl ?_
    refine nx_gX6_s C0 hh0 hh1 dX6_weeks_13 ?_
    refine nx_iconst (v := 3) C0 dX6_weeks_16 (by decide) ?_
    obtain ⟨g3, h⟩ := nguard h
    refine nx_iald C0 nI_64 g3 dX6_weeks_17 ?_
    refine nx_iload_n C0 1 dX6_weeks_18 rfl ?_
    refine nx_iadd C0 dX6_weeks_19 ?_
    refine nx_sipush (v := 999) C0 dX6_weeks_20 (by decide) ?_
    refine nx_icmp_le (tgt := 29) C0 dX6_weeks_23 (by decide) (fun q => ?_) (fun q => ?_)
    · have h := nift q h
      refine nx_aload_n C0 0 dX6_weeks_29 rfl ?_
      refine nx_gX6_s C0 hh0 hh1 dX6_weeks_30 ?_
      refine nx_iload_n C0 1 dX6_weeks_33 rfl ?_
      obtain ⟨r5, t6, c4, h⟩ := nbind2 h
      refine nx_cSv (n := 2) (As := [.ref (na B 64), .int x1]) (st := []) C0 (mX6_weeksOn l D B hB nR64 x1 σ c4) gX6_weeks_X6_weeksOn rfl rfl rfl ndX6_weeksOn ⟨Nat.le_of_ble_eq_true rfl, Nat.le_of_ble_eq_true rfl⟩ rfl (Nat.le_of_ble_eq_true rfl) rfl dX6_weeks_34 ?_
      refine nx_aload_n C0 0 dX6_weeks_37 rfl ?_
      refine nx_gX6_s C0 hh0 hh1 dX6_weeks_38 ?_
      obtain ⟨r8, c7, h⟩ := nbind h
      refine nx_cSi (n := 1) (As := [.ref (na B 64)]) (st := []) C0 (mX6_openIn l D B hB nR64 t6 c7) gX6_weeks_X6_openIn rfl rfl rfl ndX6_openIn ⟨Nat.le_of_ble_eq_true rfl, Nat.le_of_ble_eq_true rfl⟩ rfl (Nat.le_of_ble_eq_true rfl) rfl dX6_weeks_41 ?_
      obtain ⟨r10, c9, h⟩ := nbind h
      refine nx_cSi (n := 1) (As := [.int r8]) (st := []) C0 (mX6_bits l D B hB r8 t6 c9) gX6_weeks_X6_bits rfl rfl rfl ndX6_bits ⟨Nat.le_of_ble_eq_true rfl, Nat.le_of_ble_eq_true rfl⟩ rfl (Nat.le_of_ble_eq_true rfl) rfl dX6_weeks_44 ?_
      exact nr_i2 C0 hr dX6_weeks_47 h
    · have h := niff q h
      refine nx_bipush (v := -3) C0 dX6_weeks_26 (by decide) ?_
      exact nr_i2 C0 hr dX6_weeks_28 h
  · have h := nift q h
    refine nx_iconst (v := -1) C0 dX6_weeks_10 (by decide) ?_
    exact nr_i2 C0 hr dX6_weeks_11 h
def rmX6_worth : Room := { frames := 3, cells := 0, slots := 0, locals := 67 }
theorem ndX6_worth : yX6_worth.cls = RX6 ∧ yX6_worth.cls ≠ "java/lang/invoke/MethodHandle" ∧ yX6_worth.cls ≠ "java/lang/invoke/VarHandle" ∧ (parseMethodDescriptor yX6_worth.desc).map (fun d => d.parameters.length) = some 2 := by decide +kernel
set_option maxRecDepth 100000 in
set_option maxHeartbeats 4000000 in
theorem mX6_worth (l : Launch) (D : va_G) (B : nBT) (hB : nInj B) (x1 : Int32) (x2 : Int32) (σ : nS) {r : Int32}  (h : fX6_worth x1 x2 σ = some r) : nMi l D B yX6_worth wsX6_worth rmX6_worth [.ref (na B 63), .int x1, .int x2] σ r σ := by
  refine nmet (cc := cX6_worth) (maxL := 3) (ret := (some .int)) (own := RX6) (av := [.ref (na B 63), .int x1, .int x2]) (nQi D B r σ) hB (by decide) rfl rfl (Nat.le_of_ble_eq_true rfl) (fun p e s m args below meth c C0 hr => ?_)
  have hh0 : ∀ w ∈ wsX60, w ∈ wsX6_worth := by decide +kernel
  have hh1 := C0.2.2.2.2.1 (Cond.fieldLink RX6 9 "NotInTheCoinModel" "s" "[I") (by decide +kernel)
  refine nx_lv (lv' := [(0, .ref (na B 63)), (1, .int x1), (2, .int x2)]) [0, 1, 2] rfl ?_
  rw [fX6_worth] at h
  refine nx_aload_n C0 0 dX6_worth_0 rfl ?_
  refine nx_iload_n C0 1 dX6_worth_1 rfl ?_
  obtain ⟨r2, c1, h⟩ := nbind h
  refine nx_cVi (ci := 6) (n := 1) (As := [.int x1]) (st := []) C0 (mX6_isPerson l D B hB x1 σ c1) gX6_worth_X6_isPerson rfl rfl rfl ndX6_isPerson ⟨Nat.le_of_ble_eq_true rfl, Nat.le_of_ble_eq_true rfl⟩ (by decide) rfl rfl rfl rfl (Nat.le_of_ble_eq_true rfl) rfl dX6_worth_2 ?_
  refine nx_if_eq (tgt := 28) C0 dX6_worth_5 (by decide) (fun q => ?_) (fun q => ?_)
  · have h := nift q h
    refine nx_iconst (v := -1) C0 dX6_worth_28 (by decide) ?_
    exact nr_i C0 hr dX6_worth_29 h
  · have h := niff q h
    refine nx_aload_n C0 0 dX6_worth_8 rfl ?_
    refine nx_iload_n C0 2 dX6_worth_9 rfl ?_
    obtain ⟨r4, c3, h⟩ := nbind h
    refine nx_cVi (ci := 6) (n := 1) (As := [.int x2]) (st := []) C0 (mX6_isGood l D B hB x2 σ c3) gX6_worth_X6_isGood rfl rfl rfl ndX6_isGood ⟨Nat.le_of_ble_eq_true rfl, Nat.le_of_ble_eq_true rfl⟩ (by decide) rfl rfl rfl rfl (Nat.le_of_ble_eq_true rfl) rfl dX6_worth_10 ?_
    refine nx_if_eq (tgt := 28) C0 dX6_worth_13 (by decide) (fun q => ?_) (fun q => ?_)
    · have h := nift q h
      refine nx_iconst (v := -1) C0 dX6_worth_28 (by decide) ?_
      exact nr_i C0 hr dX6_worth_29 h
    · have h := niff q h
      refine nx_aload_n C0 0 dX6_worth_16 rfl ?_
      refine nx_gX6_s C0 hh0 hh1 dX6_worth_17 ?_
      refine nx_iload_n C0 1 dX6_worth_20 rfl ?_
      refine nx_iload_n C0 2 dX6_worth_21 rfl ?_
      obtain ⟨r6, c5, h⟩ := nbind h
      refine nx_cSi (n := 3) (As := [.ref (na B 64), .int x1, .int x2]) (st := []) C0 (mX6_worthIn l D B hB nR64 x1 x2 σ c5) gX6_worth_X6_worthIn rfl rfl rfl ndX6_worthIn ⟨Nat.le_of_ble_eq_true rfl, Nat.le_of_ble_eq_true rfl⟩ rfl (Nat.le_of_ble_eq_true rfl) rfl dX6_worth_22 ?_
      refine nx_goto (tgt := 29) C0 dX6_worth_25 (by decide) ?_
      exact nr_i C0 hr dX6_worth_29 h
def rmX6_would : Room := { frames := 4, cells := 0, slots := 0, locals := 90 }
theorem ndX6_would : yX6_would.cls = RX6 ∧ yX6_would.cls ≠ "java/lang/invoke/MethodHandle" ∧ yX6_would.cls ≠ "java/lang/invoke/VarHandle" ∧ (parseMethodDescriptor yX6_would.desc).map (fun d => d.parameters.length) = some 3 := by decide +kernel
set_option maxRecDepth 100000 in
set_option maxHeartbeats 4000000 in
theorem mX6_would (l : Launch) (D : va_G) (B : nBT) (hB : nInj B) (x1 : Int32) (x2 : Int32) (x3 : Int32) (σ : nS) {r : Int32}  (h : fX6_would x1 x2 x3 σ = some r) : nMi l D B yX6_would wsX6_would rmX6_would [.ref (na B 63), .int x1, .int x2, .int x3] σ r σ := by
  refine nmet (cc := cX6_would) (maxL := 4) (ret := (some .int)) (own := RX6) (av := [.ref (na B 63), .int x1, .int x2, .int x3]) (nQi D B r σ) hB (by decide) rfl rfl (Nat.le_of_ble_eq_true rfl) (fun p e s m args below meth c C0 hr => ?_)
  have hh0 : ∀ w ∈ wsX60, w ∈ wsX6_would := by decide +kernel
  have hh1 := C0.2.2.2.2.1 (Cond.fieldLink RX6 9 "NotInTheCoinModel" "s" "[I") (by decide +kernel)
  refine nx_lv (lv' := [(0, .ref (na B 63)), (1, .int x1), (2, .int x2), (3, .int x3)]) [0, 1, 2, 3] rfl ?_
  rw [fX6_would] at h
  refine nx_aload_n C0 0 dX6_would_0 rfl ?_
  refine nx_iload_n C0 1 dX6_would_1 rfl ?_
  obtain ⟨r2, c1, h⟩ := nbind h
  refine nx_cVi (ci := 6) (n := 1) (As := [.int x1]) (st := []) C0 (mX6_isPerson l D B hB x1 σ c1) gX6_would_X6_isPerson rfl rfl rfl ndX6_isPerson ⟨Nat.le_of_ble_eq_true rfl, Nat.le_of_ble_eq_true rfl⟩ (by decide) rfl rfl rfl rfl (Nat.le_of_ble_eq_true rfl) rfl dX6_would_2 ?_
  refine nx_if_eq (tgt := 24) C0 dX6_would_5 (by decide) (fun q => ?_) (fun q => ?_)
  · have h := nift q h
    refine nx_iconst (v := -1) C0 dX6_would_24 (by decide) ?_
    refine nx_goto (tgt := 46) C0 dX6_would_25 (by decide) ?_
    exact nr_i C0 hr dX6_would_46 h
  · have h := niff q h
    refine nx_aload_n C0 0 dX6_would_8 rfl ?_
    refine nx_iload_n C0 2 dX6_would_9 rfl ?_
    obtain ⟨r4, c3, h⟩ := nbind h
    refine nx_cVi (ci := 6) (n := 1) (As := [.int x2]) (st := []) C0 (mX6_isGood l D B hB x2 σ c3) gX6_would_X6_isGood rfl rfl rfl ndX6_isGood ⟨Nat.le_of_ble_eq_true rfl, Nat.le_of_ble_eq_true rfl⟩ (by decide) rfl rfl rfl rfl (Nat.le_of_ble_eq_true rfl) rfl dX6_would_10 ?_
    refine nx_if_eq (tgt := 24) C0 dX6_would_13 (by decide) (fun q => ?_) (fun q => ?_)
    · have h := nift q h
      refine nx_iconst (v := -1) C0 dX6_would_24 (by decide) ?_
      refine nx_goto (tgt := 46) C0 dX6_would_25 (by decide) ?_
      exact nr_i C0 hr dX6_would_46 h
    · have h := niff q h
      refine nx_aload_n C0 0 dX6_would_16 rfl ?_
      refine nx_iload_n C0 3 dX6_would_17 rfl ?_
      obtain ⟨r6, c5, h⟩ := nbind h
      refine nx_cVi (ci := 6) (n := 1) (As := [.int x3]) (st := []) C0 (mX6_isGood l D B hB x3 σ c5) gX6_would_X6_isGood rfl rfl rfl ndX6_isGood ⟨Nat.le_of_ble_eq_true rfl, Nat.le_of_ble_eq_true rfl⟩ (by decide) rfl rfl rfl rfl (Nat.le_of_ble_eq_true rfl) rfl dX6_would_18 ?_
      refine nx_if_ne (tgt := 28) C0 dX6_would_21 (by decide) (fun q => ?_) (fun q => ?_)
      · have h := niff q h
        refine nx_aload_n C0 0 dX6_would_28 rfl ?_
        refine nx_gX6_s C0 hh0 hh1 dX6_would_29 ?_
        refine nx_iload_n C0 1 dX6_would_32 rfl ?_
        refine nx_iload_n C0 2 dX6_would_33 rfl ?_
        refine nx_iload_n C0 3 dX6_would_34 rfl ?_
        obtain ⟨r8, c7, h⟩ := nbind h
        refine nx_cSi (n := 4) (As := [.ref (na B 64), .int x1, .int x2, .int x3]) (st := []) C0 (mX6_wouldIn l D B hB nR64 x1 x2 x3 σ c7) gX6_would_X6_wouldIn rfl rfl rfl ndX6_wouldIn ⟨Nat.le_of_ble_eq_true rfl, Nat.le_of_ble_eq_true rfl⟩ rfl (Nat.le_of_ble_eq_true rfl) rfl dX6_would_35 ?_
        refine nx_if_eq (tgt := 45) C0 dX6_would_38 (by decide) (fun q => ?_) (fun q => ?_)
        · have h := nift q h
          refine nx_iconst (v := 0) C0 dX6_would_45 (by decide) ?_
          exact nr_i C0 hr dX6_would_46 h
        · have h := niff q h
          refine nx_iconst (v := 1) C0 dX6_would_41 (by decide) ?_
          refine nx_goto (tgt := 46) C0 dX6_would_42 (by decide) ?_
          exact nr_i C0 hr dX6_would_46 h
      · have h := nift q h
        refine nx_iconst (v := -1) C0 dX6_would_24 (by decide) ?_
        refine nx_goto (tgt := 46) C0 dX6_would_25 (by decide) ?_
        exact nr_i C0 hr dX6_would_46 h
def rmX6_takesOf : Room := { frames := 4, cells := 0, slots := 0, locals := 90 }
theorem ndX6_takesOf : yX6_takesOf.cls = RX6 ∧ yX6_takesOf.cls ≠ "java/lang/invoke/MethodHandle" ∧ yX6_takesOf.cls ≠ "java/lang/invoke/VarHandle" ∧ (parseMethodDescriptor yX6_takesOf.desc).map (fun d => d.parameters.length) = some 2 := by decide +kernel
set_option maxRecDepth 100000 in
set_option maxHeartbeats 4000000 in
theorem mX6_takesOf (l : Launch) (D : va_G) (B : nBT) (hB : nInj B) (x1 : Int32) (x2 : Int32) (σ : nS) {r : Int32}  (h : fX6_takesOf x1 x2 σ = some r) : nMi l D B yX6_takesOf wsX6_takesOf rmX6_takesOf [.ref (na B 63), .int x1, .int x2] σ r σ := by
  refine nmet (cc := cX6_takesOf) (maxL := 5) (ret := (some .int)) (own := RX6) (av := [.ref (na B 63), .int x1, .int x2]) (nQi D B r σ) hB (by decide) rfl rfl (Nat.le_of_ble_eq_true rfl) (fun p e s m args below meth c C0 hr => ?_)
  have hh0 : ∀ w ∈ wsX60, w ∈ wsX6_takesOf := by decide +kernel
  have hh1 := C0.2.2.2.2.1 (Cond.fieldLink RX6 9 "NotInTheCoinModel" "s" "[I") (by decide +kernel)
  have hfX6_takesOf_b5 : ∀  (n : Nat) (a1 : Int32) (a2 : Int32) (a3 : Int32) (a4 : Int32) (h : fX6_takesOf_b5  n a1 a2 a3 a4 σ = some r), nJ p l e rmX6_takesOf s m args below meth c 0 0 (MQ below (nQi D B r σ s.heap.size) args s 0 0 (nA B s.heap.size)) D B 5 5 [(0, .ref (na B 63)), (1, .int a1), (2, .int a2), (3, .int a3), (4, .int a4)] [] σ := by
    intro  n
    induction n with
    | zero => intro a1 a2 a3 a4 h; cases h
    | succ n ih =>
        intro a1 a2 a3 a4 h
        rw [fX6_takesOf_b5] at h
        refine nx_iload C0 4 dX6_takesOf_5 rfl ?_
        refine nx_aload_n C0 0 dX6_takesOf_7 rfl ?_
        refine nx_gX6_s C0 hh0 hh1 dX6_takesOf_8 ?_
        refine nx_iconst (v := 0) C0 dX6_takesOf_11 (by decide) ?_
        obtain ⟨g1, h⟩ := nguard h
        refine nx_iald C0 nI_64 g1 dX6_takesOf_12 ?_
        refine nx_icmp_ge (tgt := 47) C0 dX6_takesOf_13 (by decide) (fun q => ?_) (fun q => ?_)
        · have h := nift q h
          refine nx_iload_n C0 3 dX6_takesOf_47 rfl ?_
          exact nr_i C0 hr dX6_takesOf_48 h
        · have h := niff q h
          refine nx_iload_n C0 3 dX6_takesOf_16 rfl ?_
          refine nx_aload_n C0 0 dX6_takesOf_17 rfl ?_
          refine nx_gX6_s C0 hh0 hh1 dX6_takesOf_18 ?_
          refine nx_iload_n C0 1 dX6_takesOf_21 rfl ?_
          refine nx_iload_n C0 2 dX6_takesOf_22 rfl ?_
          refine nx_iload C0 4 dX6_takesOf_23 rfl ?_
          obtain ⟨r3, c2, h⟩ := nbind h
          refine nx_cSi (n := 4) (As := [.ref (na B 64), .int a1, .int a2, .int a4]) (st := [.int a3]) C0 (mX6_wouldIn l D B hB nR64 a1 a2 a4 σ c2) gX6_takesOf_X6_wouldIn rfl rfl rfl ndX6_wouldIn ⟨Nat.le_of_ble_eq_true rfl, Nat.le_of_ble_eq_true rfl⟩ rfl (Nat.le_of_ble_eq_true rfl) rfl dX6_takesOf_25 ?_
          refine nx_if_eq (tgt := 38) C0 dX6_takesOf_28 (by decide) (fun q => ?_) (fun q => ?_)
          · have h := nift q h
            refine nx_iconst (v := 0) C0 dX6_takesOf_38 (by decide) ?_
            refine nx_ior C0 dX6_takesOf_39 ?_
            obtain ⟨v4, ev4, h⟩ := nlet h
            refine nx_istore_n (i := 3) (y := v4) (lv' := [(3, .int v4), (0, .ref (na B 63)), (1, .int a1), (2, .int a2), (4, .int a4)]) C0 dX6_takesOf_40 rfl (by decide) ev4 rfl ?_
            obtain ⟨v5, ev5, h⟩ := nlet h
            refine nx_iinc (v := v5) (lv' := [(4, .int v5), (3, .int v4), (0, .ref (na B 63)), (1, .int a1), (2, .int a2)]) C0 4 dX6_takesOf_41 rfl ev5 (by decide) rfl ?_
            refine nx_goto (tgt := 5) C0 dX6_takesOf_44 (by decide) ?_
            refine nx_lv (lv' := [(0, .ref (na B 63)), (1, .int a1), (2, .int a2), (3, .int v4), (4, .int v5)]) [2, 3, 4, 1, 0] rfl ?_
            exact ih a1 a2 v4 v5 h
          · have h := niff q h
            refine nx_iconst (v := 1) C0 dX6_takesOf_31 (by decide) ?_
            refine nx_iload C0 4 dX6_takesOf_32 rfl ?_
            refine nx_ishl C0 dX6_takesOf_34 ?_
            refine nx_goto (tgt := 39) C0 dX6_takesOf_35 (by decide) ?_
            refine nx_ior C0 dX6_takesOf_39 ?_
            obtain ⟨v6, ev6, h⟩ := nlet h
            refine nx_istore_n (i := 3) (y := v6) (lv' := [(3, .int v6), (0, .ref (na B 63)), (1, .int a1), (2, .int a2), (4, .int a4)]) C0 dX6_takesOf_40 rfl (by decide) ev6 rfl ?_
            obtain ⟨v7, ev7, h⟩ := nlet h
            refine nx_iinc (v := v7) (lv' := [(4, .int v7), (3, .int v6), (0, .ref (na B 63)), (1, .int a1), (2, .int a2)]) C0 4 dX6_takesOf_41 rfl ev7 (by decide) rfl ?_
            refine nx_goto (tgt := 5) C0 dX6_takesOf_44 (by decide) ?_
            refine nx_lv (lv' := [(0, .ref (na B 63)), (1, .int a1), (2, .int a2), (3, .int v6), (4, .int v7)]) [2, 3, 4, 1, 0] rfl ?_
            exact ih a1 a2 v6 v7 h
  refine nx_lv (lv' := [(0, .ref (na B 63)), (1, .int x1), (2, .int x2)]) [0, 1, 2] rfl ?_
  rw [fX6_takesOf] at h
  refine nx_iconst (v := 0) C0 dX6_takesOf_0 (by decide) ?_
  refine nx_istore_n (i := 3) (y := (0 : Int32)) (lv' := [(3, .int (0 : Int32)), (0, .ref (na B 63)), (1, .int x1), (2, .int x2)]) C0 dX6_takesOf_1 rfl (by decide) rfl rfl ?_
  refine nx_iconst (v := 0) C0 dX6_takesOf_2 (by decide) ?_
  refine nx_istore (i := 4) (y := (0 : Int32)) (lv' := [(4, .int (0 : Int32)), (3, .int (0 : Int32)), (0, .ref (na B 63)), (1, .int x1), (2, .int x2)]) C0 dX6_takesOf_3 (by decide) rfl rfl ?_
  refine nx_lv (lv' := [(0, .ref (na B 63)), (1, .int x1), (2, .int x2), (3, .int (0 : Int32)), (4, .int (0 : Int32))]) [2, 3, 4, 1, 0] rfl ?_
  exact hfX6_takesOf_b5 4096 x1 x2 (0 : Int32) (0 : Int32) h
def rmX6_takes : Room := { frames := 5, cells := 0, slots := 0, locals := 114 }
theorem ndX6_takes : yX6_takes.cls = RX6 ∧ yX6_takes.cls ≠ "java/lang/invoke/MethodHandle" ∧ yX6_takes.cls ≠ "java/lang/invoke/VarHandle" ∧ (parseMethodDescriptor yX6_takes.desc).map (fun d => d.parameters.length) = some 2 := by decide +kernel
set_option maxRecDepth 100000 in
set_option maxHeartbeats 4000000 in
theorem mX6_takes (l : Launch) (D : va_G) (B : nBT) (hB : nInj B) (x1 : Int32) (x2 : Int32) (σ : nS) {r : Int32}  (h : fX6_takes x1 x2 σ = some r) : nMi l D B yX6_takes wsX6_takes rmX6_takes [.ref (na B 63), .int x1, .int x2] σ r σ := by
  refine nmet (cc := cX6_takes) (maxL := 3) (ret := (some .int)) (own := RX6) (av := [.ref (na B 63), .int x1, .int x2]) (nQi D B r σ) hB (by decide) rfl rfl (Nat.le_of_ble_eq_true rfl) (fun p e s m args below meth c C0 hr => ?_)
  refine nx_lv (lv' := [(0, .ref (na B 63)), (1, .int x1), (2, .int x2)]) [0, 1, 2] rfl ?_
  rw [fX6_takes] at h
  refine nx_aload_n C0 0 dX6_takes_0 rfl ?_
  refine nx_iload_n C0 1 dX6_takes_1 rfl ?_
  obtain ⟨r2, c1, h⟩ := nbind h
  refine nx_cVi (ci := 6) (n := 1) (As := [.int x1]) (st := []) C0 (mX6_isPerson l D B hB x1 σ c1) gX6_takes_X6_isPerson rfl rfl rfl ndX6_isPerson ⟨Nat.le_of_ble_eq_true rfl, Nat.le_of_ble_eq_true rfl⟩ (by decide) rfl rfl rfl rfl (Nat.le_of_ble_eq_true rfl) rfl dX6_takes_2 ?_
  refine nx_if_eq (tgt := 25) C0 dX6_takes_5 (by decide) (fun q => ?_) (fun q => ?_)
  · have h := nift q h
    refine nx_iconst (v := -1) C0 dX6_takes_25 (by decide) ?_
    exact nr_i C0 hr dX6_takes_26 h
  · have h := niff q h
    refine nx_aload_n C0 0 dX6_takes_8 rfl ?_
    refine nx_iload_n C0 2 dX6_takes_9 rfl ?_
    obtain ⟨r4, c3, h⟩ := nbind h
    refine nx_cVi (ci := 6) (n := 1) (As := [.int x2]) (st := []) C0 (mX6_isGood l D B hB x2 σ c3) gX6_takes_X6_isGood rfl rfl rfl ndX6_isGood ⟨Nat.le_of_ble_eq_true rfl, Nat.le_of_ble_eq_true rfl⟩ (by decide) rfl rfl rfl rfl (Nat.le_of_ble_eq_true rfl) rfl dX6_takes_10 ?_
    refine nx_if_eq (tgt := 25) C0 dX6_takes_13 (by decide) (fun q => ?_) (fun q => ?_)
    · have h := nift q h
      refine nx_iconst (v := -1) C0 dX6_takes_25 (by decide) ?_
      exact nr_i C0 hr dX6_takes_26 h
    · have h := niff q h
      refine nx_aload_n C0 0 dX6_takes_16 rfl ?_
      refine nx_iload_n C0 1 dX6_takes_17 rfl ?_
      refine nx_iload_n C0 2 dX6_takes_18 rfl ?_
      obtain ⟨r6, c5, h⟩ := nbind h
      refine nx_cVi (ci := 6) (n := 2) (As := [.int x1, .int x2]) (st := []) C0 (mX6_takesOf l D B hB x1 x2 σ c5) gX6_takes_X6_takesOf rfl rfl rfl ndX6_takesOf ⟨Nat.le_of_ble_eq_true rfl, Nat.le_of_ble_eq_true rfl⟩ (by decide) rfl rfl rfl rfl (Nat.le_of_ble_eq_true rfl) rfl dX6_takes_19 ?_
      refine nx_goto (tgt := 26) C0 dX6_takes_22 (by decide) ?_
      exact nr_i C0 hr dX6_takes_26 h
