/-! THE LAW, from its entry -/
theorem ndiX5 : yX5_init.cls ≠ "java/lang/invoke/MethodHandle" ∧ yX5_init.cls ≠ "java/lang/invoke/VarHandle" ∧ (parseMethodDescriptor yX5_init.desc).map (fun d => d.parameters.length) = some 0 := by decide +kernel
theorem ndiX6 : yX6_init.cls ≠ "java/lang/invoke/MethodHandle" ∧ yX6_init.cls ≠ "java/lang/invoke/VarHandle" ∧ (parseMethodDescriptor yX6_init.desc).map (fun d => d.parameters.length) = some 0 := by decide +kernel
theorem dfvX5 : ∀ j, j < 9 → defaultValue (tyX5 j) = vp_V fsX5 j := fun j hj => by rcases (show j = 0 ∨ j = 1 ∨ j = 2 ∨ j = 3 ∨ j = 4 ∨ j = 5 ∨ j = 6 ∨ j = 7 ∨ j = 8 by omega) with rfl | rfl | rfl | rfl | rfl | rfl | rfl | rfl | rfl <;> rfl
theorem dfvX6 : ∀ j, j < 22 → defaultValue (tyX6 j) = vp_V fsX6 j := fun j hj => by rcases (show j = 0 ∨ j = 1 ∨ j = 2 ∨ j = 3 ∨ j = 4 ∨ j = 5 ∨ j = 6 ∨ j = 7 ∨ j = 8 ∨ j = 9 ∨ j = 10 ∨ j = 11 ∨ j = 12 ∨ j = 13 ∨ j = 14 ∨ j = 15 ∨ j = 16 ∨ j = 17 ∨ j = 18 ∨ j = 19 ∨ j = 20 ∨ j = 21 by omega) with rfl | rfl | rfl | rfl | rfl | rfl | rfl | rfl | rfl | rfl | rfl | rfl | rfl | rfl | rfl | rfl | rfl | rfl | rfl | rfl | rfl | rfl <;> rfl
theorem lw_flags {l : Launch} (h : l.flags = flags0) : l.stackTraces = false := by
  rw [Launch.stackTraces, h]
  decide +kernel
theorem lw_arr {args : Array Value} {s : State} {ty : FieldType} (h : (Cond.arrayClass ty).before args s = true) (hne : ∀ C, ty ≠ .object C) : ∃ cA, ArrOfT s cA ty ∧ va_RA s cA ty := by
  obtain ⟨cA, kA, comp, h1, h2, h3⟩ := Cond.arrayClass_spec h
  refine ⟨cA, fun n z => ⟨fun k h => (by cases h), kA, h2, comp, h3⟩, ?_⟩
  cases ty with
  | object C => exact absurd rfl (hne C)
  | _ => exact h1
theorem lw_arrS {s : State} (h : va_AO "NotInTheCoin$Shelf" s) : ∃ cA, ArrOfT s cA (.object "NotInTheCoin$Shelf") ∧ va_RA s cA (.object "NotInTheCoin$Shelf") := by
  obtain ⟨comp, cA, kA, h1, -, h3, h4, h5⟩ := Cond.arrayOver_spec h
  exact ⟨cA, fun n z => ⟨fun k h => (by cases h), kA, h3, comp, h4⟩, kA, comp, h3, h4, h1, h5⟩
theorem lw_arrI {s : State} (h : va_AOA .int s) : ∃ cA, ArrOfT s cA (.array .int) ∧ va_RA s cA (.array .int) := by
  obtain ⟨comp, cA, kA, h1, h3, h4, h5⟩ := Jvm.Cond.arrayOver_specA h
  exact ⟨cA, fun n z => ⟨fun k h => (by cases h), kA, h3, comp, h4⟩, h5⟩
theorem lw_str {b : Nat} {s : State} {k : Nat} {tx : String} (h1 : (Cond.stringRef RX5 k tx).before #[Value.ref b] s = true) (h2 : (Cond.exactly (.string RX5 k) "java/lang/String").before #[Value.ref b] s = true) : ∃ a, vk_R RX5 k tx a s := by
  obtain ⟨a, _, _, _, h, -⟩ := Cond.exactly_spec h2
  exact ⟨a, vk_R.of h1 h⟩
set_option maxHeartbeats 4000000 in
set_option maxRecDepth 100000 in
/-- YOUR PART: from the entry, for every script of at most 3072 ints, the law comes to its end with true ('hflags': the launch's flags, for a law that throws: no stack traces) -/
theorem whole_start {p : Program} {e : Env} {s : State} {m : MethodId} {below : List Frame} {meth : Method} {c : Code} (l : Launch) (hflags : l.flags = flags0) {b L : Nat} {xs : Nat → Int32} (hL : L ≤ 3072) (C0 : lw_At p s m meth c b L xs) : W p l e room_1 s m #[Value.ref b] below meth c s.heap [] 0 0 (lw_Z below #[Value.ref b] s) (entryFrame m ([Value.ref b] : List Value).toArray 8) := by
  obtain ⟨hx, hb, hr, hml, hown, hts, hX, hbl, hlocks, hgv⟩ := id C0
  have hst := lw_flags hflags
  have hfl := flat_of_before _ hgv
  have hts2 : ∀ w ∈ wsL_law, w.before #[Value.ref b] s = true := fun w h => hts w (wsL_law_in w h)
  obtain ⟨c0, i0, k0⟩ := u_known (C := RX0) (T := TX0) (N := 3) (n := 3) hts inX0 (hts (.instantiable RX0 3) (by decide +kernel))
  obtain ⟨c1, i1, k1⟩ := u_known (C := RX1) (T := TX1) (N := 6) (n := 6) hts inX1 (hts (.instantiable RX1 6) (by decide +kernel))
  obtain ⟨c2, i2, k2⟩ := u_known (C := RX2) (T := TX2) (N := 3) (n := 3) hts inX2 (hts (.instantiable RX2 3) (by decide +kernel))
  obtain ⟨c3, i3, k3⟩ := u_known (C := RX3) (T := TX3) (N := 3) (n := 3) hts inX3 (hts (.instantiable RX3 3) (by decide +kernel))
  obtain ⟨c4, i4, k4⟩ := u_known (C := RX4) (T := TX4) (N := 13) (n := 13) hts inX4 (hts (.instantiable RX4 13) (by decide +kernel))
  obtain ⟨c5, i5, k5⟩ := u_known (C := RX5) (T := TX5) (N := 9) (n := 9) hts inX5 (hts (.instantiable RX5 9) (by decide +kernel))
  obtain ⟨c6, i6, k6⟩ := u_known (C := RX6) (T := TX6) (N := 22) (n := 22) hts inX6 (hts (.instantiable RX6 22) (by decide +kernel))
  obtain ⟨D, hD⟩ : ∃ D : va_G, ∀ (k : Nat) (q : vw_C), vwCl[k]? = some q → u_Kn s q.1 q.2.1 q.2.2 (D.1 k) (D.2 k) := by
    refine ⟨(fun k => if k = 0 then c0 else if k = 1 then c1 else if k = 2 then c2 else if k = 3 then c3 else if k = 4 then c4 else if k = 5 then c5 else c6, fun k => if k = 0 then i0 else if k = 1 then i1 else if k = 2 then i2 else if k = 3 then i3 else if k = 4 then i4 else if k = 5 then i5 else i6), ?_⟩
    intro k q hq
    match k, hq with
    | 0, hq => cases hq; exact k0
    | 1, hq => cases hq; exact k1
    | 2, hq => cases hq; exact k2
    | 3, hq => cases hq; exact k3
    | 4, hq => cases hq; exact k4
    | 5, hq => cases hq; exact k5
    | 6, hq => cases hq; exact k6
    | k + 7, hq => simp [vwCl] at hq
  have hAO : va_AO "NotInTheCoin$Shelf" s := va_AO.of (hts (.arrayOver (.object "NotInTheCoin$Shelf")) (by decide +kernel))
  have hAOA : va_AOA .int s := hts (.arrayOver (.array .int)) (by decide +kernel)
  obtain ⟨cI, hI⟩ := lw_arr (hts (.arrayClass .int) (by decide +kernel)) (fun C h => by cases h)
  obtain ⟨cL, hL2⟩ := lw_arr (hts (.arrayClass .long) (by decide +kernel)) (fun C h => by cases h)
  obtain ⟨cS, hS2⟩ := lw_arrS hAO
  obtain ⟨cA, hA2⟩ := lw_arrI hAOA
  obtain ⟨B0, hB0⟩ : ∃ B0 : nBT, B0 = (fun _ => 0, cI, cL, cS, cA) := ⟨_, rfl⟩
  have hK : va_K D vwCl (nTy B0) s := by
    refine ⟨hD, fun k q hq => ?_⟩
    subst hB0
    match k, hq with
    | 0, hq => cases hq; exact hI
    | 1, hq => cases hq; exact hL2
    | 2, hq => cases hq; exact hS2
    | 3, hq => cases hq; exact hA2
    | k + 4, hq => simp [nTy] at hq
  have hkN : kN s := by
    refine ⟨fun q hq => ?_, hAO, hAOA⟩
    simp only [kNest, List.mem_cons, List.not_mem_nil, or_false] at hq
    rcases hq with rfl | rfl | rfl | rfl <;> exact va_Nw.of rfl (hts _ (by decide +kernel))
  have hnN : nN s := by
    intro q hq
    simp only [nNest, List.mem_cons, List.not_mem_nil, or_false] at hq
    rcases hq with rfl | rfl | rfl | rfl | rfl | rfl | rfl | rfl | rfl <;> exact va_Nw.of rfl (hts _ (by decide +kernel))
  have C1 : kC p s m #[Value.ref b] meth c D B0 8 cL_law wsL_law RL (fun q => s.heap.size ≤ q) := ⟨hx, hb, hml, hown, hts2, hK, hkN, hlocks, fun q h => h⟩
  have hE : nEs s := ⟨lw_str (hts _ (by decide +kernel)) (hfl _ (by decide +kernel)), lw_str (hts _ (by decide +kernel)) (hfl _ (by decide +kernel)), lw_str (hts _ (by decide +kernel)) (hfl _ (by decide +kernel)), lw_str (hts _ (by decide +kernel)) (hfl _ (by decide +kernel)), lw_str (hts _ (by decide +kernel)) (hfl _ (by decide +kernel)), lw_str (hts _ (by decide +kernel)) (hfl _ (by decide +kernel)),
    va_Nw.of rfl (hts _ (by decide +kernel)), va_Nw.of rfl (hts _ (by decide +kernel)), va_Nw.of rfl (hts _ (by decide +kernel)), va_Nc.of (hfl _ (by decide +kernel)), va_Nc.of (hfl _ (by decide +kernel)), va_Nc.of (hfl _ (by decide +kernel)), va_Nc.of (hfl _ (by decide +kernel)), va_Nw.of rfl (hts _ (by decide +kernel)), va_Nw.of rfl (hts _ (by decide +kernel)), va_Nw.of rfl (hts _ (by decide +kernel))⟩
  have hl := lv_entry ([.ref b] : List Value) (n := 8) (Nat.le_of_ble_eq_true rfl)
  rw [lg_entry_eq]
  generalize (lg_sl ([.ref b] : List Value) ++ List.replicate (8 - (lg_sl ([.ref b] : List Value)).length) Slot.unset).toArray = ls at hl ⊢
  have hl : lv_has ls 8 [(0, .ref b)] := hl
  have hP : va_P D vwCl [] s.heap := fun k q h => by simp at h
  have hD0 : va_D (fun q : Nat => s.heap.size ≤ q) [] := ⟨fun i j p q h => by simp at h, fun k q h => by simp at h⟩
  have kk : kJ p l e room_1 s m #[Value.ref b] below meth c 0 0 (lw_Z below #[Value.ref b] s) D (fun q => s.heap.size ≤ q) 8 0 [(0, .ref b)] [] [] := by
    refine kx_ctor C1 tyX5 tyX5_ok rfl inlX5 (by decide +kernel) (by decide +kernel) (by decide +kernel) dfvX5 (kX5 l D B0) gL_law_X5_init rfl rfl rfl (by decide +kernel) (by decide +kernel) (by decide +kernel) rfl ndiX5 ⟨Nat.le_of_ble_eq_true rfl, Nat.le_of_ble_eq_true rfl⟩ (Nat.le_of_ble_eq_true rfl) (Nat.le_of_ble_eq_true rfl) (Nat.le_of_ble_eq_true rfl) (Nat.le_of_ble_eq_true rfl) (Nat.le_of_ble_eq_true rfl) dL_law_0 dL_law_3 dL_law_4 (fun q5 r5 => ?_)
    refine kx_astore_n (lv' := [(1, .ref q5), (0, .ref b)]) C1 dL_law_7 rfl (by decide) rfl ?_
    refine kx_ctor C1 tyX6 tyX6_ok rfl inlX6 (by decide +kernel) (by decide +kernel) (by decide +kernel) dfvX6 (kX6 l D B0) gL_law_X6_init rfl rfl rfl (by decide +kernel) (by decide +kernel) (by decide +kernel) rfl ndiX6 ⟨Nat.le_of_ble_eq_true rfl, Nat.le_of_ble_eq_true rfl⟩ (Nat.le_of_ble_eq_true rfl) (Nat.le_of_ble_eq_true rfl) (Nat.le_of_ble_eq_true rfl) (Nat.le_of_ble_eq_true rfl) (Nat.le_of_ble_eq_true rfl) dL_law_8 dL_law_11 dL_law_12 (fun q6 r6 => ?_)
    refine kx_astore_n (lv' := [(2, .ref q6), (1, .ref q5), (0, .ref b)]) C1 dL_law_15 rfl (by decide) rfl ?_
    refine kx_ws (ws' := (q5, oX5 r5) :: (wX5t B0 r5 ++ wModel B0 q6 r6)) rfl ?_
    refine kx_iconst (v := 1) C1 dL_law_16 (by decide) ?_
    refine kx_newl (N' := 1) C1 (by decide +kernel) (by decide) (by decide) (Nat.le_of_ble_eq_true rfl) (Nat.le_of_ble_eq_true rfl) (Nat.le_of_ble_eq_true rfl) dL_law_17 (fun ql => ?_)
    refine kx_astore_n (lv' := [(3, .ref ql), (2, .ref q6), (1, .ref q5), (0, .ref b)]) C1 dL_law_19 rfl (by decide) rfl ?_
    refine kx_iconst (v := 0) C1 dL_law_20 (by decide) ?_
    refine kx_istore (lv' := [(4, .int (nI (6 * 0))), (3, .ref ql), (2, .ref q6), (1, .ref q5), (0, .ref b)]) C1 dL_law_21 (by decide) rfl ?_
    refine kx_ws (nw0 B0 q5 r5 q6 r6 ql) ?_
    intro H locs ls hG hlv
    obtain ⟨B, hB⟩ : ∃ B : nBT, B = (rB q5 r5 q6 r6 ql, B0.2) := ⟨_, rfl⟩
    have b0 : na B 0 = q5 := by rw [hB]; rfl
    have b63 : na B 63 = q6 := by rw [hB]; rfl
    have b78 : na B 78 = ql := by rw [hB]; rfl
    rw [← hB] at hG
    have hTy : nTy B = nTy B0 := by rw [hB]; rfl
    have hinj : nInj B := fun i j hi hj hij => hG.2.1.1 i j _ _ (nw_at hi) (nw_at hj) hij
    have hBge : ∀ k, k < 79 → s.heap.size ≤ na B k := fun k hk => hG.2.1.2 k _ (nw_at hk)
    have hnA : ∀ a : Nat, a < s.heap.size → ¬ nA B s.heap.size a := fun a ha h => by
      rcases h with ⟨k, hk, e1⟩ | h
      · have := hBge k hk
        omega
      · omega
    have hZ : nEz B s.heap.size s s.heap := ⟨vx_Zqof (hts _ (by decide +kernel)) (hts _ (by decide +kernel)) (hfl _ (by decide +kernel)) hnA, vx_Zqof (hts _ (by decide +kernel)) (hts _ (by decide +kernel)) (hfl _ (by decide +kernel)) hnA⟩
    have CL : lC p s m b meth c (0 + 1 + 62 + 1 + 14 + 1) (0 + 9 + 3194 + 22 + 1163 + 1) D B L xs := ⟨⟨hx, hb, hml, hown, hts2, by rw [hTy]; exact hK, hlocks, hinj, hnN, Nat.le_of_ble_eq_true rfl, Nat.le_of_ble_eq_true rfl⟩, hX, hbl, hnA b hbl, hL⟩
    have hGG : nG D B s σ0 H locs := ⟨hG.1, hG.2.2.1, fun q h1 h2 => hG.2.2.2.1 q h1 (fun h => by have h3 : s.heap.size ≤ q := h; omega), fun q hq => Or.inr (hG.2.2.2.2 q hq)⟩
    refine law_loop hst hr hBge hZ hE 513 0 _ _ σ0 (by omega) (by omega) I0 CL (by omega) (by omega) H locs ls hGG ?_
    rw [lvL, b0, b63, b78]
    exact lv_sub hlv [0, 4, 3, 2, 1] rfl
  exact kk s.heap [] ls ⟨hP, hD0, va_S.rf⟩ hl
