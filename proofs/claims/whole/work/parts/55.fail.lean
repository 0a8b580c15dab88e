/-! EXCEPTIONS 2: fail, element -/
def fF (k f : Int32) : Option String := if f = 0 then none else if k = 3 then none else if k = 4 then none else if k = 7 then some "java/lang/UnsupportedOperationException" else if k = 2 then some "java/lang/IllegalStateException" else if k = 6 then some "java/lang/IllegalStateException" else some "java/lang/IllegalArgumentException"
def rmX5_fail : Room := { frames := 6, cells := 1, slots := 6, locals := 90 }
theorem xfitN : ∀ n ∈ ["java/lang/RuntimeException", "java/lang/Exception"], Bundle.fit n = true := by decide +kernel
theorem xatU : ∀ w ∈ (vx_atS RX5 334 "java/lang/UnsupportedOperationException" ["java/lang/RuntimeException", "java/lang/Exception"]).filter (fun w => !goodWord w), w ∈ Cond.castable "java/lang/UnsupportedOperationException" "java/lang/UnsupportedOperationException" :: nDs := by decide +kernel
theorem xatS : ∀ w ∈ (vx_atS RX5 312 "java/lang/IllegalStateException" ["java/lang/RuntimeException", "java/lang/Exception"]).filter (fun w => !goodWord w), w ∈ Cond.castable "java/lang/IllegalStateException" "java/lang/IllegalStateException" :: nDs := by decide +kernel
theorem xatA : ∀ w ∈ (vx_atS RX5 305 "java/lang/IllegalArgumentException" ["java/lang/RuntimeException", "java/lang/Exception"]).filter (fun w => !goodWord w), w ∈ Cond.castable "java/lang/IllegalArgumentException" "java/lang/IllegalArgumentException" :: nDs := by decide +kernel
theorem xotU : ∀ w ∈ Cond.classLink RX5 330 "java/lang/UnsupportedOperationException" :: Cond.initialized "java/lang/UnsupportedOperationException" :: vx_atS RX5 334 "java/lang/UnsupportedOperationException" ["java/lang/RuntimeException", "java/lang/Exception"], vx_ot w = true := by decide +kernel
theorem xotS : ∀ w ∈ Cond.classLink RX5 308 "java/lang/IllegalStateException" :: Cond.initialized "java/lang/IllegalStateException" :: vx_atS RX5 312 "java/lang/IllegalStateException" ["java/lang/RuntimeException", "java/lang/Exception"], vx_ot w = true := by decide +kernel
theorem xotA : ∀ w ∈ Cond.classLink RX5 301 "java/lang/IllegalArgumentException" :: Cond.initialized "java/lang/IllegalArgumentException" :: vx_atS RX5 305 "java/lang/IllegalArgumentException" ["java/lang/RuntimeException", "java/lang/Exception"], vx_ot w = true := by decide +kernel
theorem xfU : ∀ w ∈ (vx_atS RX5 334 "java/lang/UnsupportedOperationException" ["java/lang/RuntimeException", "java/lang/Exception"]).filter goodWord, w ∈ wsX5_fail := fun _ h => List.mem_cons_of_mem _ (List.mem_append_left _ (List.mem_append_left _ (List.mem_append_right _ h)))
theorem xfS : ∀ w ∈ (vx_atS RX5 312 "java/lang/IllegalStateException" ["java/lang/RuntimeException", "java/lang/Exception"]).filter goodWord, w ∈ wsX5_fail := fun _ h => List.mem_cons_of_mem _ (List.mem_append_left _ (List.mem_append_right _ h))
theorem xfA : ∀ w ∈ (vx_atS RX5 305 "java/lang/IllegalArgumentException" ["java/lang/RuntimeException", "java/lang/Exception"]).filter goodWord, w ∈ wsX5_fail := fun _ h => List.mem_cons_of_mem _ (List.mem_append_right _ h)
theorem mX5_fail (l : Launch) (hl : l.stackTraces = false) (D : va_G) (B : nBT) (hB : nInj B) (k f : Int32) (σ : nS) :
    ∀ sz, vx_Met l yX5_fail wsX5_fail rmX5_fail (va_Pc [.int k, .int f] (nPX D B σ sz)) (va_Qv (fun _ : Unit => fF k f = none) (fun _ => nPo D B σ) (nA B sz)) (vx_X (fun _ : Unit => True) (fun E _ t => fF k f = some E ∧ nPo D B σ t) (nA B sz)) 1 6 (nA B sz) := by
  refine nmetX (cc := cX5_fail) (maxL := 2) (ret := none) (own := RX5) (av := [.int k, .int f]) (fun sz => va_Qv (fun _ : Unit => fF k f = none) (fun _ => nPo D B σ) (nA B sz)) (fun sz => vx_X (fun _ : Unit => True) (fun E _ t => fF k f = some E ∧ nPo D B σ t) (nA B sz)) 1 6 hB (by decide) rfl rfl (Nat.le_of_ble_eq_true rfl) (fun p e s m args below meth c C0 hr hexc hZ hE => ?_)
  obtain ⟨⟨a1, t1⟩, ⟨a2, t2⟩, ⟨a3, t3⟩, -, -, -, w1, w2, w3, -, -, -, -, hdec⟩ := hE
  refine nx_lv (lv' := [(0, .int k), (1, .int f)]) [0, 1] rfl ?_
  refine nx_iload_n C0 1 dX5_fail_0 rfl ?_
  refine nx_if_eq (tgt := 14) C0 dX5_fail_1 (by decide) (fun q => ?_) (fun q0 => ?_)
  · exact nx_vretX C0 hr dX5_fail_14 (by rw [fF, if_pos q])
  refine nx_iload_n C0 0 dX5_fail_4 rfl ?_
  refine nx_iconst (v := 3) C0 dX5_fail_5 (by decide) ?_
  refine nx_icmp_eq (tgt := 14) C0 dX5_fail_6 (by decide) (fun q => ?_) (fun q3 => ?_)
  · exact nx_vretX C0 hr dX5_fail_14 (by rw [fF, if_neg q0, if_pos q])
  refine nx_iload_n C0 0 dX5_fail_9 rfl ?_
  refine nx_iconst (v := 4) C0 dX5_fail_10 (by decide) ?_
  refine nx_icmp_ne (tgt := 15) C0 dX5_fail_11 (by decide) (fun q4 => ?_) (fun q => ?_)
  · refine nx_iload_n C0 0 dX5_fail_15 rfl ?_
    refine nx_bipush (v := 7) C0 dX5_fail_16 (by decide) ?_
    refine nx_icmp_ne (tgt := 32) C0 dX5_fail_18 (by decide) (fun q7 => ?_) (fun q => ?_)
    · have thS : fF k f = some "java/lang/IllegalStateException" → nJ p l e rmX5_fail s m args below meth c 0 0 (vx_MQ below (va_Qv (fun _ : Unit => fF k f = none) (fun _ => nPo D B σ) (nA B s.heap.size)) (vx_X (fun _ : Unit => True) (fun E _ t => fF k f = some E ∧ nPo D B σ t) (nA B s.heap.size)) args s 1 6 (nA B s.heap.size)) D B 2 43 [(0, .int k), (1, .int f)] [] σ := fun hf =>
        nx_throw C0 hl (cls := "java/lang/IllegalStateException") (names := ["java/lang/RuntimeException", "java/lang/Exception"]) (by decide +kernel) xfitN (by decide +kernel) (by decide +kernel) t2 xfS xatS w2 hdec xotS hZ dX5_fail_43 dX5_fail_46 dX5_fail_47 dX5_fail_50 dX5_fail_53 hexc (by decide) (by decide) (by decide) (by decide) (fun t hP hF => ⟨(), trivial, ⟨hf, hP⟩, hF⟩)
      refine nx_iload_n C0 0 dX5_fail_32 rfl ?_
      refine nx_iconst (v := 2) C0 dX5_fail_33 (by decide) ?_
      refine nx_icmp_eq (tgt := 43) C0 dX5_fail_34 (by decide) (fun q => ?_) (fun q2 => ?_)
      · exact thS (by rw [fF, if_neg q0, if_neg q3, if_neg q4, if_neg q7, if_pos q])
      · refine nx_iload_n C0 0 dX5_fail_37 rfl ?_
        refine nx_bipush (v := 6) C0 dX5_fail_38 (by decide) ?_
        refine nx_icmp_ne (tgt := 54) C0 dX5_fail_40 (by decide) (fun q6 => ?_) (fun q => ?_)
        · exact nx_throw C0 hl (cls := "java/lang/IllegalArgumentException") (names := ["java/lang/RuntimeException", "java/lang/Exception"]) (by decide +kernel) xfitN (by decide +kernel) (by decide +kernel) t3 xfA xatA w3 hdec xotA hZ dX5_fail_54 dX5_fail_57 dX5_fail_58 dX5_fail_61 dX5_fail_64 hexc (by decide) (by decide) (by decide) (by decide) (fun t hP hF => ⟨(), trivial, ⟨by rw [fF, if_neg q0, if_neg q3, if_neg q4, if_neg q7, if_neg q2, if_neg q6], hP⟩, hF⟩)
        · exact thS (by rw [fF, if_neg q0, if_neg q3, if_neg q4, if_neg q7, if_neg q2, if_pos q])
    · exact nx_throw C0 hl (cls := "java/lang/UnsupportedOperationException") (names := ["java/lang/RuntimeException", "java/lang/Exception"]) (by decide +kernel) xfitN (by decide +kernel) (by decide +kernel) t1 xfU xatU w1 hdec xotU hZ dX5_fail_21 dX5_fail_24 dX5_fail_25 dX5_fail_28 dX5_fail_31 hexc (by decide) (by decide) (by decide) (by decide) (fun t hP hF => ⟨(), trivial, ⟨by rw [fF, if_neg q0, if_neg q3, if_neg q4, if_pos q], hP⟩, hF⟩)
  · exact nx_vretX C0 hr dX5_fail_14 (by rw [fF, if_neg q0, if_neg q3, if_pos q])
/-- what element answers: 0 and the number, 1 no such shelf, 2 no row or no such place -/
def fXe (x1 x2 : Int32) (σ : nS) : Option (Nat × Int32) := (fX5_isShelf x1 σ).bind fun r2 => if r2 = 0 then some (1, 0) else if nin x1 8 then (fX1_refusal (29 + 2 * (x1).toNatClampNeg) (2 : Int32) σ).bind fun r5 => if r5 = 0 then if nin x1 8 then (fX1_isPlace (29 + 2 * (x1).toNatClampNeg) x2 σ).bind fun r8 => if r8 = 0 then some (2, 0) else if nin x1 8 then if nin x2 100 then some (0, σ ((29 + 2 * (x1).toNatClampNeg) + 1) (x2).toNatClampNeg) else none else none else none else some (2, 0) else none
def rmX5_element : Room := { frames := 6, cells := 1, slots := 6, locals := 90 }
theorem xeA : ∀ w ∈ (vx_atS RX5 305 "java/lang/IllegalArgumentException" ["java/lang/RuntimeException", "java/lang/Exception"]).filter goodWord, w ∈ wsX5_element := fun _ h => List.mem_cons_of_mem _ (List.mem_append_left _ (List.mem_append_right _ h))
theorem xeS : ∀ w ∈ (vx_atS RX5 312 "java/lang/IllegalStateException" ["java/lang/RuntimeException", "java/lang/Exception"]).filter goodWord, w ∈ wsX5_element := fun _ h => List.mem_cons_of_mem _ (List.mem_append_right _ h)
theorem mX5_element (l : Launch) (hl : l.stackTraces = false) (D : va_G) (B : nBT) (hB : nInj B) (x1 x2 : Int32) (σ : nS) {kk : Nat} {v : Int32} (h : fXe x1 x2 σ = some (kk, v)) :
    ∀ sz, vx_Met l yX5_element wsX5_element rmX5_element (va_Pc [.ref (na B 0), .int x1, .int x2] (nPX D B σ sz)) (va_Ql (fun (w : Int64) (_ : Unit) => kk = 0 ∧ w = v.toInt64) (fun _ => nPo D B σ) (nA B sz)) (vx_X (fun _ : Unit => True) (fun E _ t => ((E = "java/lang/IllegalArgumentException" ∧ kk = 1) ∨ (E = "java/lang/IllegalStateException" ∧ kk = 2)) ∧ nPo D B σ t) (nA B sz)) 1 6 (nA B sz) := by
  refine nmetX (cc := cX5_element) (maxL := 3) (ret := some .long) (own := RX5) (av := [.ref (na B 0), .int x1, .int x2]) (fun sz => va_Ql (fun (w : Int64) (_ : Unit) => kk = 0 ∧ w = v.toInt64) (fun _ => nPo D B σ) (nA B sz)) (fun sz => vx_X (fun _ : Unit => True) (fun E _ t => ((E = "java/lang/IllegalArgumentException" ∧ kk = 1) ∨ (E = "java/lang/IllegalStateException" ∧ kk = 2)) ∧ nPo D B σ t) (nA B sz)) 1 6 hB (by decide) rfl rfl (Nat.le_of_ble_eq_true rfl) (fun p e s m args below meth c C0 hr hexc hZ hE => ?_)
  obtain ⟨-, -, -, ⟨a1, t1⟩, ⟨a2, t2⟩, ⟨a3, t3⟩, w1, w2, w3, -, -, -, -, hdec⟩ := hE
  have hh0 : ∀ w ∈ wsX50, w ∈ wsX5_element := fun _ h => List.mem_cons_of_mem _ (List.mem_append_left _ (List.mem_append_left _ (List.mem_append_left _ (List.mem_append_right _ h))))
  have hh1 := C0.2.2.2.2.1 (Cond.fieldLink RX5 24 "NotInTheCoin" "shelves" "[LNotInTheCoin$Shelf;") (by decide +kernel)
  have hh2 : ∀ w ∈ wsX10, w ∈ wsX5_element := fun _ h => List.mem_cons_of_mem _ (List.mem_append_left _ (List.mem_append_left _ (List.mem_append_right _ h)))
  have hh3 := C0.2.2.2.2.1 (Cond.fieldLink RX5 77 "NotInTheCoin$Shelf" "cells" "[I") (by decide +kernel)
  refine nx_lv (lv' := [(0, .ref (na B 0)), (1, .int x1), (2, .int x2)]) [0, 1, 2] rfl ?_
  rw [fXe] at h
  refine nx_iload_n C0 1 dX5_element_0 rfl ?_
  obtain ⟨r2, c1, h⟩ := nbind h
  refine nx_cSi (n := 1) (As := [.int x1]) (st := []) C0 (mX5_isShelf l D B hB x1 σ c1) gX5_element_X5_isShelf rfl rfl rfl ndX5_isShelf ⟨Nat.le_of_ble_eq_true rfl, Nat.le_of_ble_eq_true rfl⟩ rfl (Nat.le_of_ble_eq_true rfl) rfl dX5_element_1 ?_
  refine nx_if_ne (tgt := 18) C0 dX5_element_4 (by decide) (fun q => ?_) (fun q => ?_)
  · have h := niff q h
    refine nx_aload_n C0 0 dX5_element_18 rfl ?_
    refine nx_gX5_shelves C0 hh0 hh1 dX5_element_19 ?_
    refine nx_iload_n C0 1 dX5_element_22 rfl ?_
    obtain ⟨g3, h⟩ := nguard h
    refine nx_aldS C0 g3 dX5_element_23 ?_
    refine nx_iconst (v := 2) C0 dX5_element_24 (by decide) ?_
    obtain ⟨r5, c4, h⟩ := nbind h
    refine nx_cVi (ci := 1) (n := 1) (As := [.int (2 : Int32)]) (st := []) C0 (mX1_refusal l D B hB (nSh_of g3) (2 : Int32) σ c4) gX5_element_X1_refusal rfl rfl rfl ndX1_refusal ⟨Nat.le_of_ble_eq_true rfl, Nat.le_of_ble_eq_true rfl⟩ (by have := nSh_lt (nSh_of g3); omega) (nSh_e (nSh_of g3) _) rfl rfl rfl (Nat.le_of_ble_eq_true rfl) rfl dX5_element_25 ?_
    refine nx_if_eq (tgt := 42) C0 dX5_element_28 (by decide) (fun q => ?_) (fun q => ?_)
    · have h := nift q h
      refine nx_aload_n C0 0 dX5_element_42 rfl ?_
      refine nx_gX5_shelves C0 hh0 hh1 dX5_element_43 ?_
      refine nx_iload_n C0 1 dX5_element_46 rfl ?_
      obtain ⟨g6, h⟩ := nguard h
      refine nx_aldS C0 g6 dX5_element_47 ?_
      refine nx_iload_n C0 2 dX5_element_48 rfl ?_
      obtain ⟨r8, c7, h⟩ := nbind h
      refine nx_cVi (ci := 1) (n := 1) (As := [.int x2]) (st := []) C0 (mX1_isPlace l D B hB (nSh_of g6) x2 σ c7) gX5_element_X1_isPlace rfl rfl rfl ndX1_isPlace ⟨Nat.le_of_ble_eq_true rfl, Nat.le_of_ble_eq_true rfl⟩ (by have := nSh_lt (nSh_of g6); omega) (nSh_e (nSh_of g6) _) rfl rfl rfl (Nat.le_of_ble_eq_true rfl) rfl dX5_element_49 ?_
      refine nx_if_ne (tgt := 66) C0 dX5_element_52 (by decide) (fun q => ?_) (fun q => ?_)
      · have h := niff q h
        refine nx_aload_n C0 0 dX5_element_66 rfl ?_
        refine nx_gX5_shelves C0 hh0 hh1 dX5_element_67 ?_
        refine nx_iload_n C0 1 dX5_element_70 rfl ?_
        obtain ⟨g9, h⟩ := nguard h
        refine nx_aldS C0 g9 dX5_element_71 ?_
        refine nx_gX1_cells C0 (nSh_of g9) hh2 hh3 dX5_element_72 ?_
        refine nx_iload_n C0 2 dX5_element_75 rfl ?_
        obtain ⟨g10, h⟩ := nguard h
        refine nx_iald C0 (nSh_c (nSh_of g9)) g10 dX5_element_76 ?_
        refine nx_i2l C0 dX5_element_77 ?_
        cases h
        exact nx_lretX C0 hr dX5_element_78 ⟨rfl, rfl⟩
      · have h := nift q h
        cases h
        exact nx_throw C0 hl (cls := "java/lang/IllegalStateException") (names := ["java/lang/RuntimeException", "java/lang/Exception"]) (by decide +kernel) xfitN (by decide +kernel) (by decide +kernel) t3 xeS xatS w2 hdec xotS hZ dX5_element_55 dX5_element_58 dX5_element_59 dX5_element_62 dX5_element_65 hexc (by decide) (by decide) (by decide) (by decide) (fun t hP hF => ⟨(), trivial, ⟨Or.inr ⟨rfl, rfl⟩, hP⟩, hF⟩)
    · have h := niff q h
      cases h
      exact nx_throw C0 hl (cls := "java/lang/IllegalStateException") (names := ["java/lang/RuntimeException", "java/lang/Exception"]) (by decide +kernel) xfitN (by decide +kernel) (by decide +kernel) t2 xeS xatS w2 hdec xotS hZ dX5_element_31 dX5_element_34 dX5_element_35 dX5_element_38 dX5_element_41 hexc (by decide) (by decide) (by decide) (by decide) (fun t hP hF => ⟨(), trivial, ⟨Or.inr ⟨rfl, rfl⟩, hP⟩, hF⟩)
  · have h := nift q h
    cases h
    exact nx_throw C0 hl (cls := "java/lang/IllegalArgumentException") (names := ["java/lang/RuntimeException", "java/lang/Exception"]) (by decide +kernel) xfitN (by decide +kernel) (by decide +kernel) t1 xeA xatA w3 hdec xotA hZ dX5_element_7 dX5_element_10 dX5_element_11 dX5_element_14 dX5_element_17 hexc (by decide) (by decide) (by decide) (by decide) (fun t hP hF => ⟨(), trivial, ⟨Or.inl ⟨rfl, rfl⟩, hP⟩, hF⟩)
