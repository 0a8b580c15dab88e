/-! CONSTRUCTORS 2 (written by wip/whole/tools/gen_ctor.py): towns, shelves, steps, settling, the short list, the reference -/
def z0 : Nat → Int32 := fun _ => 0
def cU (i : Nat) : Nat → Int32 := fun j => if j < i then nI j else 0
def cM (i : Nat) : Nat → Int32 := fun j => if 66 ≤ j ∧ j < 66 + i then nI (j - 66) else 0
theorem cU0 : (fun _ => 0 : Nat → Int32) = cU 0 := by funext j; simp [cU]
theorem cM0 : (fun _ => 0 : Nat → Int32) = cM 0 := by
  funext j
  rw [cM, if_neg (by omega)]
theorem cU_s {i : Nat} (hi : i < 8) : upd (cU i) (nI i).toNatClampNeg (nI i) = cU (i + 1) := by
  funext j
  rw [nI_clamp (by omega)]
  by_cases h : j = i
  · subst h; simp [upd, cU]
  · simp only [upd, cU, if_neg h]
    by_cases h2 : j < i
    · rw [if_pos h2, if_pos (by omega)]
    · rw [if_neg h2, if_neg (by omega)]
theorem cM_s {i : Nat} (hi : i < 8) : upd (cM i) (66 + nI i).toNatClampNeg (nI i) = cM (i + 1) := by
  funext j
  have e : ((66 : Int32) + nI i).toNatClampNeg = 66 + i := by
    rw [show (66 : Int32) + nI i = nI (66 + i) by rw [show (66 : Int32) = nI 66 from rfl]; unfold nI; rw [Int32.ofNat_add]]
    exact nI_clamp (by omega)
  rw [e]
  by_cases h : j = 66 + i
  · subst h
    simp only [upd, if_true, cM]
    rw [if_pos ⟨by omega, by omega⟩, show 66 + i - 66 = i by omega]
  · simp only [upd, cM, if_neg h]
    by_cases h2 : 66 ≤ j ∧ j < 66 + i
    · rw [if_pos h2, if_pos ⟨h2.1, by omega⟩]
    · rw [if_neg h2, if_neg (by omega)]
theorem nin8 {i : Nat} (hi : i < 8) : nin (nI i) 8 := by
  unfold nin; rw [nI_toInt (by omega)]; omega
theorem nle8 {i : Nat} (hi : i < 8) : ¬ (8 : Int32) ≤ nI i := by
  rw [Int32.le_iff_toInt_le, nI_toInt (by omega)]
  have : (8 : Int32).toInt = 8 := by decide
  omega
def fsX4 : List Value := [.null, .null, .null, .int 0, .null, .int 0, .null, .null, .null, .int 0, .int 0, .null, .int 0]
def wTown (B : nBT) (q : Nat) (r : Nat → Nat) : va_W := [(q, .inr (4, [.ref (r 1), .ref (r 2), .ref (r 3), .int 0, .ref (r 4), .int 0, .ref (r 5), .ref (r 6), .ref (r 7), .int 0, .int 0, .ref (r 8), .int 0])), (r 1, nIa B 8 z0), (r 2, nIa B 8 z0), (r 3, nIa B 8 z0), (r 4, nIa B 6 z0), (r 5, nIa B 8 z0), (r 6, nIa B 8 z0), (r 7, nIa B 8 z0), (r 8, nIa B 8 (cU 8))]
def rmX4_init : Room := { frames := 2, cells := 8, slots := 62, locals := 40 }
set_option maxRecDepth 20000 in
theorem kX4_it {p : Program} {l : Launch} {e : Env} {R : Room} {s : State} {m : MethodId} {args : Array Value} {below : List Frame} {meth : Method} {c : Code} {cells slots : Nat} {Q : State → Prop} {D : va_G} {B : nBT} {A : Nat → Prop} (C0 : kC p s m args meth c D B 2 cX4_init wsX4_init RX4 A) {q a : Nat} {fs : List Value} {W1 : va_W} (ha : fs[11]? = some (.ref a)) {i : Nat} (hi : i < 8) (k : kJ p l e R s m args below meth c cells slots Q D A 2 70 [(1, .int (nI (i + 1))), (0, .ref q)] [] ((q, .inr (4, fs)) :: (W1 ++ (a, nIa B 8 (cU (i + 1))) :: []))) : kJ p l e R s m args below meth c cells slots Q D A 2 70 [(1, .int (nI i)), (0, .ref q)] [] ((q, .inr (4, fs)) :: (W1 ++ (a, nIa B 8 (cU i)) :: [])) := by
  have hin : ∀ w ∈ wsX40, w ∈ wsX4_init := fun _ h => List.mem_cons_of_mem _ (List.mem_append_right _ h)
  rw [← cU_s hi] at k
  refine kx_iload_n C0 0 dX4_init_70 rfl ?_
  refine kx_bipush (v := 8) C0 dX4_init_71 (by decide) ?_
  refine kx_icmp_ge (tgt := 89) C0 dX4_init_73 (by decide) (fun z => absurd z (nle8 hi)) (fun _ => ?_)
  refine kx_aload_n C0 1 dX4_init_76 rfl ?_
  refine kx_get (T := TX4) (N := 13) (ci := 4) (j := 11) C0 rfl hin (by decide) (by decide +kernel) rfl ha dX4_init_77 ?_
  refine kx_iload_n C0 0 dX4_init_80 rfl ?_
  refine kx_iload_n C0 0 dX4_init_81 rfl ?_
  refine kx_iast (n := 8) (W2 := []) C0 (nin8 hi) dX4_init_82 ?_
  refine kx_iinc (lv' := [(1, .int (nI (i + 1))), (0, .ref q)]) C0 0 dX4_init_83 rfl (nI_succ i).symm (by decide) rfl ?_
  exact kx_goto (tgt := 70) C0 dX4_init_86 (by decide) k
set_option maxRecDepth 20000 in
theorem kX4 (l : Launch) (D : va_G) (B : nBT) : kM l D B yX4_init wsX4_init rmX4_init (.inr (4, fsX4)) (wTown B) 8 62 := by
  refine kmet (cc := cX4_init) (maxL := 2) (own := RX4) 8 62 (by decide) rfl rfl rfl (Nat.le_of_ble_eq_true rfl) (fun p e s m args below meth c q C0 hr hn => ?_)
  have hin : ∀ w ∈ wsX40, w ∈ wsX4_init := fun _ h => List.mem_cons_of_mem _ (List.mem_append_right _ h)
  have harr : Cond.arrayClass .int ∈ wsX4_init := by decide +kernel
  refine kx_lv (lv' := [(0, .ref q)]) [0] rfl ?_
  refine kx_aload_n C0 0 dX4_init_0 rfl ?_
  refine kx_obj C0 (by decide +kernel) (by decide +kernel) (by decide +kernel) dX4_init_1 (Nat.le_of_ble_eq_true rfl) (Nat.le_of_ble_eq_true rfl) ?_
  refine kx_aload_n C0 0 dX4_init_4 rfl ?_
  refine kx_bipush (v := 8) C0 dX4_init_5 (by decide) ?_
  refine kx_newi (N' := 8) C0 harr (by decide) (by decide) (Nat.le_of_ble_eq_true rfl) (Nat.le_of_ble_eq_true rfl) (Nat.le_of_ble_eq_true rfl) dX4_init_7 (fun q1 => ?_)
  refine kx_putF (T := TX4) (N := 13) (ci := 4) (j := 0) (ty := .array .int) (fs' := [.ref q1, .null, .null, .int 0, .null, .int 0, .null, .null, .null, .int 0, .int 0, .null, .int 0]) C0 hn tyX4 tyX4_ok nmX4 rfl hin (by decide) (by decide +kernel) rfl rfl (by decide +kernel) rfl rfl (Nat.le_of_ble_eq_true rfl) rfl dX4_init_9 ?_
  refine kx_aload_n C0 0 dX4_init_12 rfl ?_
  refine kx_bipush (v := 8) C0 dX4_init_13 (by decide) ?_
  refine kx_newi (N' := 8) C0 harr (by decide) (by decide) (Nat.le_of_ble_eq_true rfl) (Nat.le_of_ble_eq_true rfl) (Nat.le_of_ble_eq_true rfl) dX4_init_15 (fun q2 => ?_)
  refine kx_putF (T := TX4) (N := 13) (ci := 4) (j := 1) (ty := .array .int) (fs' := [.ref q1, .ref q2, .null, .int 0, .null, .int 0, .null, .null, .null, .int 0, .int 0, .null, .int 0]) C0 hn tyX4 tyX4_ok nmX4 rfl hin (by decide) (by decide +kernel) rfl rfl (by decide +kernel) rfl rfl (Nat.le_of_ble_eq_true rfl) rfl dX4_init_17 ?_
  refine kx_aload_n C0 0 dX4_init_20 rfl ?_
  refine kx_bipush (v := 8) C0 dX4_init_21 (by decide) ?_
  refine kx_newi (N' := 8) C0 harr (by decide) (by decide) (Nat.le_of_ble_eq_true rfl) (Nat.le_of_ble_eq_true rfl) (Nat.le_of_ble_eq_true rfl) dX4_init_23 (fun q3 => ?_)
  refine kx_putF (T := TX4) (N := 13) (ci := 4) (j := 2) (ty := .array .int) (fs' := [.ref q1, .ref q2, .ref q3, .int 0, .null, .int 0, .null, .null, .null, .int 0, .int 0, .null, .int 0]) C0 hn tyX4 tyX4_ok nmX4 rfl hin (by decide) (by decide +kernel) rfl rfl (by decide +kernel) rfl rfl (Nat.le_of_ble_eq_true rfl) rfl dX4_init_25 ?_
  refine kx_aload_n C0 0 dX4_init_28 rfl ?_
  refine kx_bipush (v := 6) C0 dX4_init_29 (by decide) ?_
  refine kx_newi (N' := 6) C0 harr (by decide) (by decide) (Nat.le_of_ble_eq_true rfl) (Nat.le_of_ble_eq_true rfl) (Nat.le_of_ble_eq_true rfl) dX4_init_31 (fun q4 => ?_)
  refine kx_putF (T := TX4) (N := 13) (ci := 4) (j := 4) (ty := .array .int) (fs' := [.ref q1, .ref q2, .ref q3, .int 0, .ref q4, .int 0, .null, .null, .null, .int 0, .int 0, .null, .int 0]) C0 hn tyX4 tyX4_ok nmX4 rfl hin (by decide) (by decide +kernel) rfl rfl (by decide +kernel) rfl rfl (Nat.le_of_ble_eq_true rfl) rfl dX4_init_33 ?_
  refine kx_aload_n C0 0 dX4_init_36 rfl ?_
  refine kx_bipush (v := 8) C0 dX4_init_37 (by decide) ?_
  refine kx_newi (N' := 8) C0 harr (by decide) (by decide) (Nat.le_of_ble_eq_true rfl) (Nat.le_of_ble_eq_true rfl) (Nat.le_of_ble_eq_true rfl) dX4_init_39 (fun q5 => ?_)
  refine kx_putF (T := TX4) (N := 13) (ci := 4) (j := 6) (ty := .array .int) (fs' := [.ref q1, .ref q2, .ref q3, .int 0, .ref q4, .int 0, .ref q5, .null, .null, .int 0, .int 0, .null, .int 0]) C0 hn tyX4 tyX4_ok nmX4 rfl hin (by decide) (by decide +kernel) rfl rfl (by decide +kernel) rfl rfl (Nat.le_of_ble_eq_true rfl) rfl dX4_init_41 ?_
  refine kx_aload_n C0 0 dX4_init_44 rfl ?_
  refine kx_bipush (v := 8) C0 dX4_init_45 (by decide) ?_
  refine kx_newi (N' := 8) C0 harr (by decide) (by decide) (Nat.le_of_ble_eq_true rfl) (Nat.le_of_ble_eq_true rfl) (Nat.le_of_ble_eq_true rfl) dX4_init_47 (fun q6 => ?_)
  refine kx_putF (T := TX4) (N := 13) (ci := 4) (j := 7) (ty := .array .int) (fs' := [.ref q1, .ref q2, .ref q3, .int 0, .ref q4, .int 0, .ref q5, .ref q6, .null, .int 0, .int 0, .null, .int 0]) C0 hn tyX4 tyX4_ok nmX4 rfl hin (by decide) (by decide +kernel) rfl rfl (by decide +kernel) rfl rfl (Nat.le_of_ble_eq_true rfl) rfl dX4_init_49 ?_
  refine kx_aload_n C0 0 dX4_init_52 rfl ?_
  refine kx_bipush (v := 8) C0 dX4_init_53 (by decide) ?_
  refine kx_newi (N' := 8) C0 harr (by decide) (by decide) (Nat.le_of_ble_eq_true rfl) (Nat.le_of_ble_eq_true rfl) (Nat.le_of_ble_eq_true rfl) dX4_init_55 (fun q7 => ?_)
  refine kx_putF (T := TX4) (N := 13) (ci := 4) (j := 8) (ty := .array .int) (fs' := [.ref q1, .ref q2, .ref q3, .int 0, .ref q4, .int 0, .ref q5, .ref q6, .ref q7, .int 0, .int 0, .null, .int 0]) C0 hn tyX4 tyX4_ok nmX4 rfl hin (by decide) (by decide +kernel) rfl rfl (by decide +kernel) rfl rfl (Nat.le_of_ble_eq_true rfl) rfl dX4_init_57 ?_
  refine kx_aload_n C0 0 dX4_init_60 rfl ?_
  refine kx_bipush (v := 8) C0 dX4_init_61 (by decide) ?_
  refine kx_newi (N' := 8) C0 harr (by decide) (by decide) (Nat.le_of_ble_eq_true rfl) (Nat.le_of_ble_eq_true rfl) (Nat.le_of_ble_eq_true rfl) dX4_init_63 (fun q8 => ?_)
  refine kx_putF (T := TX4) (N := 13) (ci := 4) (j := 11) (ty := .array .int) (fs' := [.ref q1, .ref q2, .ref q3, .int 0, .ref q4, .int 0, .ref q5, .ref q6, .ref q7, .int 0, .int 0, .ref q8, .int 0]) C0 hn tyX4 tyX4_ok nmX4 rfl hin (by decide) (by decide +kernel) rfl rfl (by decide +kernel) rfl rfl (Nat.le_of_ble_eq_true rfl) rfl dX4_init_65 ?_
  refine kx_iconst (v := 0) C0 dX4_init_68 (by decide) ?_
  refine kx_istore_n (lv' := [(1, .int (nI 0)), (0, .ref q)]) C0 dX4_init_69 rfl (by decide) rfl ?_
  refine kx_ws (ws' := (q, .inr (4, [.ref q1, .ref q2, .ref q3, .int 0, .ref q4, .int 0, .ref q5, .ref q6, .ref q7, .int 0, .int 0, .ref q8, .int 0])) :: ([(q1, nIa B 8 z0), (q2, nIa B 8 z0), (q3, nIa B 8 z0), (q4, nIa B 6 z0), (q5, nIa B 8 z0), (q6, nIa B 8 z0), (q7, nIa B 8 z0)] ++ (q8, nIa B 8 (cU 0)) :: [])) (by rw [← cU0]; rfl) ?_
  refine kX4_it C0 rfl (i := 0) (by decide) ?_
  refine kX4_it C0 rfl (i := 1) (by decide) ?_
  refine kX4_it C0 rfl (i := 2) (by decide) ?_
  refine kX4_it C0 rfl (i := 3) (by decide) ?_
  refine kX4_it C0 rfl (i := 4) (by decide) ?_
  refine kX4_it C0 rfl (i := 5) (by decide) ?_
  refine kX4_it C0 rfl (i := 6) (by decide) ?_
  refine kX4_it C0 rfl (i := 7) (by decide) ?_
  refine kx_iload_n C0 0 dX4_init_70 rfl ?_
  refine kx_bipush (v := 8) C0 dX4_init_71 (by decide) ?_
  refine kx_icmp_ge (tgt := 89) C0 dX4_init_73 (by decide) (fun _ => ?_) (fun z => absurd (by decide) z)
  exact kx_vret C0 (w := wTown B q) (fun k => match k with | 1 => q1 | 2 => q2 | 3 => q3 | 4 => q4 | 5 => q5 | 6 => q6 | 7 => q7 | 8 => q8 | _ => 0) rfl (Nat.le_of_ble_eq_true rfl) (Nat.le_of_ble_eq_true rfl) hr dX4_init_89
def fsX1 : List Value := [.int 0, .int 0, .int 0, .int 0, .int 0, .null]
def wShelf (B : nBT) (q : Nat) (r : Nat → Nat) : va_W := [(q, .inr (1, [.int 0, .int 0, .int 0, .int 0, .int 0, .ref (r 1)])), (r 1, nIa B 100 z0)]
def rmX1_init : Room := { frames := 2, cells := 1, slots := 100, locals := 40 }
set_option maxRecDepth 20000 in
theorem kX1 (l : Launch) (D : va_G) (B : nBT) : kM l D B yX1_init wsX1_init rmX1_init (.inr (1, fsX1)) (wShelf B) 1 100 := by
  refine kmet (cc := cX1_init) (maxL := 1) (own := RX1) 1 100 (by decide) rfl rfl rfl (Nat.le_of_ble_eq_true rfl) (fun p e s m args below meth c q C0 hr hn => ?_)
  have hin : ∀ w ∈ wsX10, w ∈ wsX1_init := fun _ h => List.mem_cons_of_mem _ (List.mem_append_right _ h)
  have harr : Cond.arrayClass .int ∈ wsX1_init := by decide +kernel
  refine kx_lv (lv' := [(0, .ref q)]) [0] rfl ?_
  refine kx_aload_n C0 0 dX1_init_0 rfl ?_
  refine kx_obj C0 (by decide +kernel) (by decide +kernel) (by decide +kernel) dX1_init_1 (Nat.le_of_ble_eq_true rfl) (Nat.le_of_ble_eq_true rfl) ?_
  refine kx_aload_n C0 0 dX1_init_4 rfl ?_
  refine kx_bipush (v := 100) C0 dX1_init_5 (by decide) ?_
  refine kx_newi (N' := 100) C0 harr (by decide) (by decide) (Nat.le_of_ble_eq_true rfl) (Nat.le_of_ble_eq_true rfl) (Nat.le_of_ble_eq_true rfl) dX1_init_7 (fun q1 => ?_)
  refine kx_putF (T := TX1) (N := 6) (ci := 1) (j := 5) (ty := .array .int) (fs' := [.int 0, .int 0, .int 0, .int 0, .int 0, .ref q1]) C0 hn tyX1 tyX1_ok nmX1 rfl hin (by decide) (by decide +kernel) rfl rfl (by decide +kernel) rfl rfl (Nat.le_of_ble_eq_true rfl) rfl dX1_init_9 ?_
  exact kx_vret C0 (w := wShelf B q) (fun k => match k with | 1 => q1 | _ => 0) rfl (Nat.le_of_ble_eq_true rfl) (Nat.le_of_ble_eq_true rfl) hr dX1_init_12
def fsX3 : List Value := [.null, .null, .int 0]
def wSteps (B : nBT) (q : Nat) (r : Nat → Nat) : va_W := [(q, .inr (3, [.ref (r 1), .ref (r 2), .int 0])), (r 1, nIa B 8 z0), (r 2, nIa B 8 z0)]
def rmX3_init : Room := { frames := 2, cells := 2, slots := 16, locals := 40 }
set_option maxRecDepth 20000 in
theorem kX3 (l : Launch) (D : va_G) (B : nBT) : kM l D B yX3_init wsX3_init rmX3_init (.inr (3, fsX3)) (wSteps B) 2 16 := by
  refine kmet (cc := cX3_init) (maxL := 1) (own := RX3) 2 16 (by decide) rfl rfl rfl (Nat.le_of_ble_eq_true rfl) (fun p e s m args below meth c q C0 hr hn => ?_)
  have hin : ∀ w ∈ wsX30, w ∈ wsX3_init := fun _ h => List.mem_cons_of_mem _ (List.mem_append_right _ h)
  have harr : Cond.arrayClass .int ∈ wsX3_init := by decide +kernel
  refine kx_lv (lv' := [(0, .ref q)]) [0] rfl ?_
  refine kx_aload_n C0 0 dX3_init_0 rfl ?_
  refine kx_obj C0 (by decide +kernel) (by decide +kernel) (by decide +kernel) dX3_init_1 (Nat.le_of_ble_eq_true rfl) (Nat.le_of_ble_eq_true rfl) ?_
  refine kx_aload_n C0 0 dX3_init_4 rfl ?_
  refine kx_bipush (v := 8) C0 dX3_init_5 (by decide) ?_
  refine kx_newi (N' := 8) C0 harr (by decide) (by decide) (Nat.le_of_ble_eq_true rfl) (Nat.le_of_ble_eq_true rfl) (Nat.le_of_ble_eq_true rfl) dX3_init_7 (fun q1 => ?_)
  refine kx_putF (T := TX3) (N := 3) (ci := 3) (j := 0) (ty := .array .int) (fs' := [.ref q1, .null, .int 0]) C0 hn tyX3 tyX3_ok nmX3 rfl hin (by decide) (by decide +kernel) rfl rfl (by decide +kernel) rfl rfl (Nat.le_of_ble_eq_true rfl) rfl dX3_init_9 ?_
  refine kx_aload_n C0 0 dX3_init_12 rfl ?_
  refine kx_bipush (v := 8) C0 dX3_init_13 (by decide) ?_
  refine kx_newi (N' := 8) C0 harr (by decide) (by decide) (Nat.le_of_ble_eq_true rfl) (Nat.le_of_ble_eq_true rfl) (Nat.le_of_ble_eq_true rfl) dX3_init_15 (fun q2 => ?_)
  refine kx_putF (T := TX3) (N := 3) (ci := 3) (j := 1) (ty := .array .int) (fs' := [.ref q1, .ref q2, .int 0]) C0 hn tyX3 tyX3_ok nmX3 rfl hin (by decide) (by decide +kernel) rfl rfl (by decide +kernel) rfl rfl (Nat.le_of_ble_eq_true rfl) rfl dX3_init_17 ?_
  exact kx_vret C0 (w := wSteps B q) (fun k => match k with | 1 => q1 | 2 => q2 | _ => 0) rfl (Nat.le_of_ble_eq_true rfl) (Nat.le_of_ble_eq_true rfl) hr dX3_init_20
def fsX2 : List Value := [.null, .null, .null]
def wShort (B : nBT) (q : Nat) (r : Nat → Nat) : va_W := [(q, .inr (2, [.ref (r 1), .ref (r 2), .ref (r 3)])), (r 1, nIa B 8 z0), (r 2, nIa B 8 z0), (r 3, nIa B 8 z0)]
def rmX2_init : Room := { frames := 2, cells := 3, slots := 24, locals := 40 }
set_option maxRecDepth 20000 in
theorem kX2 (l : Launch) (D : va_G) (B : nBT) : kM l D B yX2_init wsX2_init rmX2_init (.inr (2, fsX2)) (wShort B) 3 24 := by
  refine kmet (cc := cX2_init) (maxL := 1) (own := RX2) 3 24 (by decide) rfl rfl rfl (Nat.le_of_ble_eq_true rfl) (fun p e s m args below meth c q C0 hr hn => ?_)
  have hin : ∀ w ∈ wsX20, w ∈ wsX2_init := fun _ h => List.mem_cons_of_mem _ (List.mem_append_right _ h)
  have harr : Cond.arrayClass .int ∈ wsX2_init := by decide +kernel
  refine kx_lv (lv' := [(0, .ref q)]) [0] rfl ?_
  refine kx_aload_n C0 0 dX2_init_0 rfl ?_
  refine kx_obj C0 (by decide +kernel) (by decide +kernel) (by decide +kernel) dX2_init_1 (Nat.le_of_ble_eq_true rfl) (Nat.le_of_ble_eq_true rfl) ?_
  refine kx_aload_n C0 0 dX2_init_4 rfl ?_
  refine kx_bipush (v := 8) C0 dX2_init_5 (by decide) ?_
  refine kx_newi (N' := 8) C0 harr (by decide) (by decide) (Nat.le_of_ble_eq_true rfl) (Nat.le_of_ble_eq_true rfl) (Nat.le_of_ble_eq_true rfl) dX2_init_7 (fun q1 => ?_)
  refine kx_putF (T := TX2) (N := 3) (ci := 2) (j := 0) (ty := .array .int) (fs' := [.ref q1, .null, .null]) C0 hn tyX2 tyX2_ok nmX2 rfl hin (by decide) (by decide +kernel) rfl rfl (by decide +kernel) rfl rfl (Nat.le_of_ble_eq_true rfl) rfl dX2_init_9 ?_
  refine kx_aload_n C0 0 dX2_init_12 rfl ?_
  refine kx_bipush (v := 8) C0 dX2_init_13 (by decide) ?_
  refine kx_newi (N' := 8) C0 harr (by decide) (by decide) (Nat.le_of_ble_eq_true rfl) (Nat.le_of_ble_eq_true rfl) (Nat.le_of_ble_eq_true rfl) dX2_init_15 (fun q2 => ?_)
  refine kx_putF (T := TX2) (N := 3) (ci := 2) (j := 1) (ty := .array .int) (fs' := [.ref q1, .ref q2, .null]) C0 hn tyX2 tyX2_ok nmX2 rfl hin (by decide) (by decide +kernel) rfl rfl (by decide +kernel) rfl rfl (Nat.le_of_ble_eq_true rfl) rfl dX2_init_17 ?_
  refine kx_aload_n C0 0 dX2_init_20 rfl ?_
  refine kx_bipush (v := 8) C0 dX2_init_21 (by decide) ?_
  refine kx_newi (N' := 8) C0 harr (by decide) (by decide) (Nat.le_of_ble_eq_true rfl) (Nat.le_of_ble_eq_true rfl) (Nat.le_of_ble_eq_true rfl) dX2_init_23 (fun q3 => ?_)
  refine kx_putF (T := TX2) (N := 3) (ci := 2) (j := 2) (ty := .array .int) (fs' := [.ref q1, .ref q2, .ref q3]) C0 hn tyX2 tyX2_ok nmX2 rfl hin (by decide) (by decide +kernel) rfl rfl (by decide +kernel) rfl rfl (Nat.le_of_ble_eq_true rfl) rfl dX2_init_25 ?_
  exact kx_vret C0 (w := wShort B q) (fun k => match k with | 1 => q1 | 2 => q2 | 3 => q3 | _ => 0) rfl (Nat.le_of_ble_eq_true rfl) (Nat.le_of_ble_eq_true rfl) hr dX2_init_28
def fsX0 : List Value := [.null, .null, .int 0]
def wSet (B : nBT) (q : Nat) (r : Nat → Nat) : va_W := [(q, .inr (0, [.ref (r 1), .ref (r 2), .int 0])), (r 1, nIa B 8 z0), (r 2, .inl (B.2.2.2.2, 8, .inr (.inr (.inr (.inr (fun i => if i < 8 then some (r (i + 3)) else none))))))] ++ (List.range 8).map (fun i => (r (i + 3), nIa B 256 z0))
def rmX0_init : Room := { frames := 2, cells := 10, slots := 2064, locals := 40 }
set_option maxRecDepth 20000 in
theorem kX0 (l : Launch) (D : va_G) (B : nBT) : kM l D B yX0_init wsX0_init rmX0_init (.inr (0, fsX0)) (wSet B) 10 2064 := by
  refine kmet (cc := cX0_init) (maxL := 1) (own := RX0) 10 2064 (by decide) rfl rfl rfl (Nat.le_of_ble_eq_true rfl) (fun p e s m args below meth c q C0 hr hn => ?_)
  have hin : ∀ w ∈ wsX00, w ∈ wsX0_init := fun _ h => List.mem_cons_of_mem _ (List.mem_append_right _ h)
  have harr : Cond.arrayClass .int ∈ wsX0_init := by decide +kernel
  refine kx_lv (lv' := [(0, .ref q)]) [0] rfl ?_
  refine kx_aload_n C0 0 dX0_init_0 rfl ?_
  refine kx_obj C0 (by decide +kernel) (by decide +kernel) (by decide +kernel) dX0_init_1 (Nat.le_of_ble_eq_true rfl) (Nat.le_of_ble_eq_true rfl) ?_
  refine kx_aload_n C0 0 dX0_init_4 rfl ?_
  refine kx_bipush (v := 8) C0 dX0_init_5 (by decide) ?_
  refine kx_newi (N' := 8) C0 harr (by decide) (by decide) (Nat.le_of_ble_eq_true rfl) (Nat.le_of_ble_eq_true rfl) (Nat.le_of_ble_eq_true rfl) dX0_init_7 (fun q1 => ?_)
  refine kx_putF (T := TX0) (N := 3) (ci := 0) (j := 0) (ty := .array .int) (fs' := [.ref q1, .null, .int 0]) C0 hn tyX0 tyX0_ok nmX0 rfl hin (by decide) (by decide +kernel) rfl rfl (by decide +kernel) rfl rfl (Nat.le_of_ble_eq_true rfl) rfl dX0_init_9 ?_
  refine kx_aload_n C0 0 dX0_init_12 rfl ?_
  refine kx_bipush (v := 8) C0 dX0_init_13 (by decide) ?_
  refine kx_sipush (v := 256) C0 dX0_init_15 (by decide) ?_
  refine kx_mna C0 (by decide +kernel) harr (Nat.le_of_ble_eq_true rfl) (Nat.le_of_ble_eq_true rfl) dX0_init_18 (fun q2 rr => ?_)
  refine kx_putF (T := TX0) (N := 3) (ci := 0) (j := 1) (ty := .array (.array .int)) (fs' := [.ref q1, .ref q2, .int 0]) C0 hn tyX0 tyX0_ok nmX0 rfl hin (by decide) (by decide +kernel) rfl rfl (by decide +kernel) rfl rfl (Nat.le_of_ble_eq_true rfl) rfl dX0_init_22 ?_
  exact kx_vret C0 (w := wSet B q) (fun k => match k with | 1 => q1 | 2 => q2 | k + 3 => rr k | 0 => 0) rfl (Nat.le_of_ble_eq_true rfl) (Nat.le_of_ble_eq_true rfl) hr dX0_init_25
def fsX6 : List Value := [.null, .null, .null, .null, .int 0, .int 0, .int 0, .int 0, .null, .null, .null, .int 0, .null, .int 0, .int 0, .null, .null, .null, .null, .null, .null, .int 0]
def wModel (B : nBT) (q : Nat) (r : Nat → Nat) : va_W := [(q, .inr (6, [.ref (r 1), .ref (r 2), .ref (r 3), .ref (r 4), .int 0, .int 0, .int 0, .int 0, .ref (r 5), .ref (r 6), .ref (r 7), .int 0, .ref (r 8), .int 0, .int 0, .ref (r 9), .ref (r 10), .ref (r 11), .ref (r 12), .ref (r 13), .ref (r 14), .int 0])), (r 1, nIa B 74 (cM 8)), (r 2, nIa B 74 z0), (r 3, nIa B 74 z0), (r 4, nIa B 74 z0), (r 5, nIa B 3 z0), (r 6, nIa B 8 z0), (r 7, nIa B 8 z0), (r 8, nIa B 8 z0), (r 9, nIa B 8 z0), (r 10, nIa B 8 z0), (r 11, nIa B 8 z0), (r 12, nIa B 8 z0), (r 13, nIa B 8 z0), (r 14, nIa B 800 z0)]
def rmX6_init : Room := { frames := 2, cells := 14, slots := 1163, locals := 40 }
set_option maxRecDepth 20000 in
theorem kX6_it {p : Program} {l : Launch} {e : Env} {R : Room} {s : State} {m : MethodId} {args : Array Value} {below : List Frame} {meth : Method} {c : Code} {cells slots : Nat} {Q : State → Prop} {D : va_G} {B : nBT} {A : Nat → Prop} (C0 : kC p s m args meth c D B 2 cX6_init wsX6_init RX6 A) {q a : Nat} {fs : List Value} {W1 : va_W} (ha : fs[0]? = some (.ref a)) {i : Nat} (hi : i < 8) (k : kJ p l e R s m args below meth c cells slots Q D A 2 118 [(1, .int (nI (i + 1))), (0, .ref q)] [] ((q, .inr (6, fs)) :: ([] ++ (a, nIa B 74 (cM (i + 1))) :: W1))) : kJ p l e R s m args below meth c cells slots Q D A 2 118 [(1, .int (nI i)), (0, .ref q)] [] ((q, .inr (6, fs)) :: ([] ++ (a, nIa B 74 (cM i)) :: W1)) := by
  have hin : ∀ w ∈ wsX60, w ∈ wsX6_init := fun _ h => List.mem_cons_of_mem _ (List.mem_append_right _ h)
  rw [← cM_s hi] at k
  refine kx_iload_n C0 0 dX6_init_118 rfl ?_
  refine kx_bipush (v := 8) C0 dX6_init_119 (by decide) ?_
  refine kx_icmp_ge (tgt := 140) C0 dX6_init_121 (by decide) (fun z => absurd z (nle8 hi)) (fun _ => ?_)
  refine kx_aload_n C0 1 dX6_init_124 rfl ?_
  refine kx_get (T := TX6) (N := 22) (ci := 6) (j := 0) C0 rfl hin (by decide) (by decide +kernel) rfl ha dX6_init_125 ?_
  refine kx_bipush (v := 66) C0 dX6_init_128 (by decide) ?_
  refine kx_iload_n C0 0 dX6_init_130 rfl ?_
  refine kx_iadd C0 dX6_init_131 ?_
  refine kx_iload_n C0 0 dX6_init_132 rfl ?_
  refine kx_iast (n := 74) (W1 := []) C0 (by rw [show (66 : Int32) + nI i = nI (66 + i) by rw [show (66 : Int32) = nI 66 from rfl]; unfold nI; rw [Int32.ofNat_add]]; unfold nin; rw [nI_toInt (by omega)]; omega) dX6_init_133 ?_
  refine kx_iinc (lv' := [(1, .int (nI (i + 1))), (0, .ref q)]) C0 0 dX6_init_134 rfl (nI_succ i).symm (by decide) rfl ?_
  exact kx_goto (tgt := 118) C0 dX6_init_137 (by decide) k
set_option maxRecDepth 20000 in
theorem kX6 (l : Launch) (D : va_G) (B : nBT) : kM l D B yX6_init wsX6_init rmX6_init (.inr (6, fsX6)) (wModel B) 14 1163 := by
  refine kmet (cc := cX6_init) (maxL := 2) (own := RX6) 14 1163 (by decide) rfl rfl rfl (Nat.le_of_ble_eq_true rfl) (fun p e s m args below meth c q C0 hr hn => ?_)
  have hin : ∀ w ∈ wsX60, w ∈ wsX6_init := fun _ h => List.mem_cons_of_mem _ (List.mem_append_right _ h)
  have harr : Cond.arrayClass .int ∈ wsX6_init := by decide +kernel
  refine kx_lv (lv' := [(0, .ref q)]) [0] rfl ?_
  refine kx_aload_n C0 0 dX6_init_0 rfl ?_
  refine kx_obj C0 (by decide +kernel) (by decide +kernel) (by decide +kernel) dX6_init_1 (Nat.le_of_ble_eq_true rfl) (Nat.le_of_ble_eq_true rfl) ?_
  refine kx_aload_n C0 0 dX6_init_4 rfl ?_
  refine kx_bipush (v := 74) C0 dX6_init_5 (by decide) ?_
  refine kx_newi (N' := 74) C0 harr (by decide) (by decide) (Nat.le_of_ble_eq_true rfl) (Nat.le_of_ble_eq_true rfl) (Nat.le_of_ble_eq_true rfl) dX6_init_7 (fun q1 => ?_)
  refine kx_putF (T := TX6) (N := 22) (ci := 6) (j := 0) (ty := .array .int) (fs' := [.ref q1, .null, .null, .null, .int 0, .int 0, .int 0, .int 0, .null, .null, .null, .int 0, .null, .int 0, .int 0, .null, .null, .null, .null, .null, .null, .int 0]) C0 hn tyX6 tyX6_ok nmX6 rfl hin (by decide) (by decide +kernel) rfl rfl (by decide +kernel) rfl rfl (Nat.le_of_ble_eq_true rfl) rfl dX6_init_9 ?_
  refine kx_aload_n C0 0 dX6_init_12 rfl ?_
  refine kx_bipush (v := 74) C0 dX6_init_13 (by decide) ?_
  refine kx_newi (N' := 74) C0 harr (by decide) (by decide) (Nat.le_of_ble_eq_true rfl) (Nat.le_of_ble_eq_true rfl) (Nat.le_of_ble_eq_true rfl) dX6_init_15 (fun q2 => ?_)
  refine kx_putF (T := TX6) (N := 22) (ci := 6) (j := 1) (ty := .array .int) (fs' := [.ref q1, .ref q2, .null, .null, .int 0, .int 0, .int 0, .int 0, .null, .null, .null, .int 0, .null, .int 0, .int 0, .null, .null, .null, .null, .null, .null, .int 0]) C0 hn tyX6 tyX6_ok nmX6 rfl hin (by decide) (by decide +kernel) rfl rfl (by decide +kernel) rfl rfl (Nat.le_of_ble_eq_true rfl) rfl dX6_init_17 ?_
  refine kx_aload_n C0 0 dX6_init_20 rfl ?_
  refine kx_bipush (v := 74) C0 dX6_init_21 (by decide) ?_
  refine kx_newi (N' := 74) C0 harr (by decide) (by decide) (Nat.le_of_ble_eq_true rfl) (Nat.le_of_ble_eq_true rfl) (Nat.le_of_ble_eq_true rfl) dX6_init_23 (fun q3 => ?_)
  refine kx_putF (T := TX6) (N := 22) (ci := 6) (j := 2) (ty := .array .int) (fs' := [.ref q1, .ref q2, .ref q3, .null, .int 0, .int 0, .int 0, .int 0, .null, .null, .null, .int 0, .null, .int 0, .int 0, .null, .null, .null, .null, .null, .null, .int 0]) C0 hn tyX6 tyX6_ok nmX6 rfl hin (by decide) (by decide +kernel) rfl rfl (by decide +kernel) rfl rfl (Nat.le_of_ble_eq_true rfl) rfl dX6_init_25 ?_
  refine kx_aload_n C0 0 dX6_init_28 rfl ?_
  refine kx_bipush (v := 74) C0 dX6_init_29 (by decide) ?_
  refine kx_newi (N' := 74) C0 harr (by decide) (by decide) (Nat.le_of_ble_eq_true rfl) (Nat.le_of_ble_eq_true rfl) (Nat.le_of_ble_eq_true rfl) dX6_init_31 (fun q4 => ?_)
  refine kx_putF (T := TX6) (N := 22) (ci := 6) (j := 3) (ty := .array .int) (fs' := [.ref q1, .ref q2, .ref q3, .ref q4, .int 0, .int 0, .int 0, .int 0, .null, .null, .null, .int 0, .null, .int 0, .int 0, .null, .null, .null, .null, .null, .null, .int 0]) C0 hn tyX6 tyX6_ok nmX6 rfl hin (by decide) (by decide +kernel) rfl rfl (by decide +kernel) rfl rfl (Nat.le_of_ble_eq_true rfl) rfl dX6_init_33 ?_
  refine kx_aload_n C0 0 dX6_init_36 rfl ?_
  refine kx_iconst (v := 3) C0 dX6_init_37 (by decide) ?_
  refine kx_newi (N' := 3) C0 harr (by decide) (by decide) (Nat.le_of_ble_eq_true rfl) (Nat.le_of_ble_eq_true rfl) (Nat.le_of_ble_eq_true rfl) dX6_init_38 (fun q5 => ?_)
  refine kx_putF (T := TX6) (N := 22) (ci := 6) (j := 8) (ty := .array .int) (fs' := [.ref q1, .ref q2, .ref q3, .ref q4, .int 0, .int 0, .int 0, .int 0, .ref q5, .null, .null, .int 0, .null, .int 0, .int 0, .null, .null, .null, .null, .null, .null, .int 0]) C0 hn tyX6 tyX6_ok nmX6 rfl hin (by decide) (by decide +kernel) rfl rfl (by decide +kernel) rfl rfl (Nat.le_of_ble_eq_true rfl) rfl dX6_init_40 ?_
  refine kx_aload_n C0 0 dX6_init_43 rfl ?_
  refine kx_bipush (v := 8) C0 dX6_init_44 (by decide) ?_
  refine kx_newi (N' := 8) C0 harr (by decide) (by decide) (Nat.le_of_ble_eq_true rfl) (Nat.le_of_ble_eq_true rfl) (Nat.le_of_ble_eq_true rfl) dX6_init_46 (fun q6 => ?_)
  refine kx_putF (T := TX6) (N := 22) (ci := 6) (j := 9) (ty := .array .int) (fs' := [.ref q1, .ref q2, .ref q3, .ref q4, .int 0, .int 0, .int 0, .int 0, .ref q5, .ref q6, .null, .int 0, .null, .int 0, .int 0, .null, .null, .null, .null, .null, .null, .int 0]) C0 hn tyX6 tyX6_ok nmX6 rfl hin (by decide) (by decide +kernel) rfl rfl (by decide +kernel) rfl rfl (Nat.le_of_ble_eq_true rfl) rfl dX6_init_48 ?_
  refine kx_aload_n C0 0 dX6_init_51 rfl ?_
  refine kx_bipush (v := 8) C0 dX6_init_52 (by decide) ?_
  refine kx_newi (N' := 8) C0 harr (by decide) (by decide) (Nat.le_of_ble_eq_true rfl) (Nat.le_of_ble_eq_true rfl) (Nat.le_of_ble_eq_true rfl) dX6_init_54 (fun q7 => ?_)
  refine kx_putF (T := TX6) (N := 22) (ci := 6) (j := 10) (ty := .array .int) (fs' := [.ref q1, .ref q2, .ref q3, .ref q4, .int 0, .int 0, .int 0, .int 0, .ref q5, .ref q6, .ref q7, .int 0, .null, .int 0, .int 0, .null, .null, .null, .null, .null, .null, .int 0]) C0 hn tyX6 tyX6_ok nmX6 rfl hin (by decide) (by decide +kernel) rfl rfl (by decide +kernel) rfl rfl (Nat.le_of_ble_eq_true rfl) rfl dX6_init_56 ?_
  refine kx_aload_n C0 0 dX6_init_59 rfl ?_
  refine kx_bipush (v := 8) C0 dX6_init_60 (by decide) ?_
  refine kx_newi (N' := 8) C0 harr (by decide) (by decide) (Nat.le_of_ble_eq_true rfl) (Nat.le_of_ble_eq_true rfl) (Nat.le_of_ble_eq_true rfl) dX6_init_62 (fun q8 => ?_)
  refine kx_putF (T := TX6) (N := 22) (ci := 6) (j := 12) (ty := .array .int) (fs' := [.ref q1, .ref q2, .ref q3, .ref q4, .int 0, .int 0, .int 0, .int 0, .ref q5, .ref q6, .ref q7, .int 0, .ref q8, .int 0, .int 0, .null, .null, .null, .null, .null, .null, .int 0]) C0 hn tyX6 tyX6_ok nmX6 rfl hin (by decide) (by decide +kernel) rfl rfl (by decide +kernel) rfl rfl (Nat.le_of_ble_eq_true rfl) rfl dX6_init_64 ?_
  refine kx_aload_n C0 0 dX6_init_67 rfl ?_
  refine kx_bipush (v := 8) C0 dX6_init_68 (by decide) ?_
  refine kx_newi (N' := 8) C0 harr (by decide) (by decide) (Nat.le_of_ble_eq_true rfl) (Nat.le_of_ble_eq_true rfl) (Nat.le_of_ble_eq_true rfl) dX6_init_70 (fun q9 => ?_)
  refine kx_putF (T := TX6) (N := 22) (ci := 6) (j := 15) (ty := .array .int) (fs' := [.ref q1, .ref q2, .ref q3, .ref q4, .int 0, .int 0, .int 0, .int 0, .ref q5, .ref q6, .ref q7, .int 0, .ref q8, .int 0, .int 0, .ref q9, .null, .null, .null, .null, .null, .int 0]) C0 hn tyX6 tyX6_ok nmX6 rfl hin (by decide) (by decide +kernel) rfl rfl (by decide +kernel) rfl rfl (Nat.le_of_ble_eq_true rfl) rfl dX6_init_72 ?_
  refine kx_aload_n C0 0 dX6_init_75 rfl ?_
  refine kx_bipush (v := 8) C0 dX6_init_76 (by decide) ?_
  refine kx_newi (N' := 8) C0 harr (by decide) (by decide) (Nat.le_of_ble_eq_true rfl) (Nat.le_of_ble_eq_true rfl) (Nat.le_of_ble_eq_true rfl) dX6_init_78 (fun q10 => ?_)
  refine kx_putF (T := TX6) (N := 22) (ci := 6) (j := 16) (ty := .array .int) (fs' := [.ref q1, .ref q2, .ref q3, .ref q4, .int 0, .int 0, .int 0, .int 0, .ref q5, .ref q6, .ref q7, .int 0, .ref q8, .int 0, .int 0, .ref q9, .ref q10, .null, .null, .null, .null, .int 0]) C0 hn tyX6 tyX6_ok nmX6 rfl hin (by decide) (by decide +kernel) rfl rfl (by decide +kernel) rfl rfl (Nat.le_of_ble_eq_true rfl) rfl dX6_init_80 ?_
  refine kx_aload_n C0 0 dX6_init_83 rfl ?_
  refine kx_bipush (v := 8) C0 dX6_init_84 (by decide) ?_
  refine kx_newi (N' := 8) C0 harr (by decide) (by decide) (Nat.le_of_ble_eq_true rfl) (Nat.le_of_ble_eq_true rfl) (Nat.le_of_ble_eq_true rfl) dX6_init_86 (fun q11 => ?_)
  refine kx_putF (T := TX6) (N := 22) (ci := 6) (j := 17) (ty := .array .int) (fs' := [.ref q1, .ref q2, .ref q3, .ref q4, .int 0, .int 0, .int 0, .int 0, .ref q5, .ref q6, .ref q7, .int 0, .ref q8, .int 0, .int 0, .ref q9, .ref q10, .ref q11, .null, .null, .null, .int 0]) C0 hn tyX6 tyX6_ok nmX6 rfl hin (by decide) (by decide +kernel) rfl rfl (by decide +kernel) rfl rfl (Nat.le_of_ble_eq_true rfl) rfl dX6_init_88 ?_
  refine kx_aload_n C0 0 dX6_init_91 rfl ?_
  refine kx_bipush (v := 8) C0 dX6_init_92 (by decide) ?_
  refine kx_newi (N' := 8) C0 harr (by decide) (by decide) (Nat.le_of_ble_eq_true rfl) (Nat.le_of_ble_eq_true rfl) (Nat.le_of_ble_eq_true rfl) dX6_init_94 (fun q12 => ?_)
  refine kx_putF (T := TX6) (N := 22) (ci := 6) (j := 18) (ty := .array .int) (fs' := [.ref q1, .ref q2, .ref q3, .ref q4, .int 0, .int 0, .int 0, .int 0, .ref q5, .ref q6, .ref q7, .int 0, .ref q8, .int 0, .int 0, .ref q9, .ref q10, .ref q11, .ref q12, .null, .null, .int 0]) C0 hn tyX6 tyX6_ok nmX6 rfl hin (by decide) (by decide +kernel) rfl rfl (by decide +kernel) rfl rfl (Nat.le_of_ble_eq_true rfl) rfl dX6_init_96 ?_
  refine kx_aload_n C0 0 dX6_init_99 rfl ?_
  refine kx_bipush (v := 8) C0 dX6_init_100 (by decide) ?_
  refine kx_newi (N' := 8) C0 harr (by decide) (by decide) (Nat.le_of_ble_eq_true rfl) (Nat.le_of_ble_eq_true rfl) (Nat.le_of_ble_eq_true rfl) dX6_init_102 (fun q13 => ?_)
  refine kx_putF (T := TX6) (N := 22) (ci := 6) (j := 19) (ty := .array .int) (fs' := [.ref q1, .ref q2, .ref q3, .ref q4, .int 0, .int 0, .int 0, .int 0, .ref q5, .ref q6, .ref q7, .int 0, .ref q8, .int 0, .int 0, .ref q9, .ref q10, .ref q11, .ref q12, .ref q13, .null, .int 0]) C0 hn tyX6 tyX6_ok nmX6 rfl hin (by decide) (by decide +kernel) rfl rfl (by decide +kernel) rfl rfl (Nat.le_of_ble_eq_true rfl) rfl dX6_init_104 ?_
  refine kx_aload_n C0 0 dX6_init_107 rfl ?_
  refine kx_sipush (v := 800) C0 dX6_init_108 (by decide) ?_
  refine kx_newi (N' := 800) C0 harr (by decide) (by decide) (Nat.le_of_ble_eq_true rfl) (Nat.le_of_ble_eq_true rfl) (Nat.le_of_ble_eq_true rfl) dX6_init_111 (fun q14 => ?_)
  refine kx_putF (T := TX6) (N := 22) (ci := 6) (j := 20) (ty := .array .int) (fs' := [.ref q1, .ref q2, .ref q3, .ref q4, .int 0, .int 0, .int 0, .int 0, .ref q5, .ref q6, .ref q7, .int 0, .ref q8, .int 0, .int 0, .ref q9, .ref q10, .ref q11, .ref q12, .ref q13, .ref q14, .int 0]) C0 hn tyX6 tyX6_ok nmX6 rfl hin (by decide) (by decide +kernel) rfl rfl (by decide +kernel) rfl rfl (Nat.le_of_ble_eq_true rfl) rfl dX6_init_113 ?_
  refine kx_iconst (v := 0) C0 dX6_init_116 (by decide) ?_
  refine kx_istore_n (lv' := [(1, .int (nI 0)), (0, .ref q)]) C0 dX6_init_117 rfl (by decide) rfl ?_
  refine kx_ws (ws' := (q, .inr (6, [.ref q1, .ref q2, .ref q3, .ref q4, .int 0, .int 0, .int 0, .int 0, .ref q5, .ref q6, .ref q7, .int 0, .ref q8, .int 0, .int 0, .ref q9, .ref q10, .ref q11, .ref q12, .ref q13, .ref q14, .int 0])) :: ([] ++ (q1, nIa B 74 (cM 0)) :: [(q2, nIa B 74 z0), (q3, nIa B 74 z0), (q4, nIa B 74 z0), (q5, nIa B 3 z0), (q6, nIa B 8 z0), (q7, nIa B 8 z0), (q8, nIa B 8 z0), (q9, nIa B 8 z0), (q10, nIa B 8 z0), (q11, nIa B 8 z0), (q12, nIa B 8 z0), (q13, nIa B 8 z0), (q14, nIa B 800 z0)])) (by rw [← cM0]; rfl) ?_
  refine kX6_it C0 rfl (i := 0) (by decide) ?_
  refine kX6_it C0 rfl (i := 1) (by decide) ?_
  refine kX6_it C0 rfl (i := 2) (by decide) ?_
  refine kX6_it C0 rfl (i := 3) (by decide) ?_
  refine kX6_it C0 rfl (i := 4) (by decide) ?_
  refine kX6_it C0 rfl (i := 5) (by decide) ?_
  refine kX6_it C0 rfl (i := 6) (by decide) ?_
  refine kX6_it C0 rfl (i := 7) (by decide) ?_
  refine kx_iload_n C0 0 dX6_init_118 rfl ?_
  refine kx_bipush (v := 8) C0 dX6_init_119 (by decide) ?_
  refine kx_icmp_ge (tgt := 140) C0 dX6_init_121 (by decide) (fun _ => ?_) (fun z => absurd (by decide) z)
  exact kx_vret C0 (w := wModel B q) (fun k => match k with | 1 => q1 | 2 => q2 | 3 => q3 | 4 => q4 | 5 => q5 | 6 => q6 | 7 => q7 | 8 => q8 | 9 => q9 | 10 => q10 | 11 => q11 | 12 => q12 | 13 => q13 | 14 => q14 | _ => 0) rfl (Nat.le_of_ble_eq_true rfl) (Nat.le_of_ble_eq_true rfl) hr dX6_init_140
