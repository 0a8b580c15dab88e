/-! THE LAW's element -/
def rmL_element : Room := { frames := 8, cells := 1, slots := 6, locals := 140 }
theorem ndX5_element : yX5_element.cls = RX5 ∧ yX5_element.cls ≠ "java/lang/invoke/MethodHandle" ∧ yX5_element.cls ≠ "java/lang/invoke/VarHandle" ∧ (parseMethodDescriptor yX5_element.desc).map (fun d => d.parameters.length) = some 2 := by decide +kernel
def oL (σ : nS) (kk : Nat) (v : Int32) : nS := if kk = 0 then nU σ 78 (upd (σ 78) 0 v) else σ
theorem mL_element (l : Launch) (hl : l.stackTraces = false) (D : va_G) (B : nBT) (hB : nInj B) (x1 x2 : Int32) (σ : nS) {kk : Nat} {v : Int32} (h : fXe x1 x2 σ = some (kk, v)) :
    ∀ sz, Met l yL_element wsL_element rmL_element (va_Pc [.ref (na B 0), .int x1, .int x2, .ref (na B 78)] (nPX D B σ sz)) (nQi D B (nI kk) (oL σ kk v) sz) 1 6 (nA B sz) := by
  refine nmetW (cc := cL_element) (maxL := 5) (ret := some .int) (hh := [(0, 9, 12, 13), (0, 9, 16, 15)]) (own := RL) (av := [.ref (na B 0), .int x1, .int x2, .ref (na B 78)]) (fun sz => nQi D B (nI kk) (oL σ kk v) sz) 1 6 hB (by decide) rfl rfl (Nat.le_of_ble_eq_true rfl) (Nat.le_refl 1) (Nat.le_refl 6) (fun p e s m args below meth c C0 C1 hr htab hZ hE => ?_)
  have hk1 := C0.2.2.2.2.1 (Cond.classLink RL 13 "java/lang/IllegalArgumentException") (by decide +kernel)
  have hk2 := C0.2.2.2.2.1 (Cond.classLink RL 15 "java/lang/IllegalStateException") (by decide +kernel)
  refine nx_lv (lv' := [(0, .ref (na B 0)), (1, .int x1), (2, .int x2), (3, .ref (na B 78))]) [0, 1, 2, 3] rfl ?_
  refine nx_aload_n C0 3 dL_element_0 rfl ?_
  refine nx_iconst (v := 0) C0 dL_element_1 (by decide) ?_
  refine nx_aload_n C0 0 dL_element_2 rfl ?_
  refine nx_iload_n C0 1 dL_element_3 rfl ?_
  refine nx_iload_n C0 2 dL_element_4 rfl ?_
  refine nx_cVXl (k := 0) (ci := 5) (n := 2) (As := [.int x1, .int x2]) (st := [.int 0, .ref (na B 78)]) C0 hZ hE (px := fun w => kk = 0 ∧ w = v.toInt64) (BX := fun E => (E = "java/lang/IllegalArgumentException" ∧ kk = 1) ∨ (E = "java/lang/IllegalStateException" ∧ kk = 2)) (mX5_element l hl D B hB x1 x2 σ h) gL_element_X5_element rfl rfl rfl ndX5_element ⟨Nat.le_of_ble_eq_true rfl, Nat.le_of_ble_eq_true rfl⟩ (by decide) rfl rfl rfl rfl (Nat.le_of_ble_eq_true rfl) rfl dL_element_5 ⟨Nat.le_of_ble_eq_true rfl, Nat.le_of_ble_eq_true rfl⟩ (fun E ce q9 H1 locs1 ls hG hlv hf hce hcv hcl => ?_) (fun w hw => ?_)
  · have htab2 : c.exceptionTable.toList = [⟨0, 9, 12, 13⟩, ⟨0, 9, 16, 15⟩] := htab
    obtain ⟨-, -, -, -, -, -, w1, w2, w3, n1, n2, n3, n4, -⟩ := hE
    rcases hf with ⟨rfl, rfl⟩ | ⟨rfl, rfl⟩
    · refine nx_catch C1 (name := "java/lang/IllegalArgumentException") [] ⟨0, 9, 12, 13⟩ [⟨0, 9, 16, 15⟩] htab2 (fun z hz => by cases hz) (by decide) (by decide) hk1 (va_Nw.use rfl w3) hG hlv hce hcv hcl ?_
      refine nx_astore (lv' := [(4, .ref q9), (0, .ref (na B 0)), (1, .int x1), (2, .int x2), (3, .ref (na B 78))]) C1 dL_element_12 (by decide) rfl rfl ?_
      refine nx_iconst (v := 1) C1 dL_element_14 (by decide) ?_
      exact nx_iretW C1 (Nat.le_refl _) (Nat.le_refl _) hr dL_element_15 rfl rfl
    · refine nx_catch C1 (name := "java/lang/IllegalStateException") [⟨0, 9, 12, 13⟩] ⟨0, 9, 16, 15⟩ [] htab2 (fun z hz => by rw [List.mem_singleton.mp hz]; exact Or.inr ⟨by decide, _, hk1, n4⟩) (by decide) (by decide) hk2 (va_Nw.use rfl w2) hG hlv hce hcv hcl ?_
      refine nx_astore (lv' := [(4, .ref q9), (0, .ref (na B 0)), (1, .int x1), (2, .int x2), (3, .ref (na B 78))]) C1 dL_element_16 (by decide) rfl rfl ?_
      refine nx_iconst (v := 2) C1 dL_element_18 (by decide) ?_
      exact nx_iretW C1 (Nat.le_refl _) (Nat.le_refl _) hr dL_element_19 rfl rfl
  · obtain ⟨rfl, rfl⟩ := hw
    refine nx_last C1 dL_element_8 rfl ?_
    refine nx_goto (tgt := 20) C1 dL_element_9 (by decide) ?_
    refine nx_iconst (v := 0) C1 dL_element_20 (by decide) ?_
    exact nx_iretW C1 (Nat.le_refl _) (Nat.le_refl _) hr dL_element_21 rfl rfl
