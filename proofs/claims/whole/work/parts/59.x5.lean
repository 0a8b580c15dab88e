/-! CONSTRUCTORS 3 (written by wip/whole/tools/gen_x5.py): the class itself -/
def fsX5 : List Value := [.null, .null, .null, .int 0, .null, .null, .null, .null, .int 0]
def wX5t (B : nBT) (r : Nat → Nat) : va_W := wTown B (r 1) (fun k => r (k + 1)) ++ (wTown B (r 10) (fun k => r (k + 10)) ++ (wTown B (r 19) (fun k => r (k + 19)) ++ ([(r 28, .inl (B.2.2.2.1, 8, .inr (.inr (.inr (.inr (fun i => if i < 8 then some (r (29 + 2 * i)) else none))))))] ++ (wShelf B (r 29) (fun k => r (k + 29)) ++ (wShelf B (r 31) (fun k => r (k + 31)) ++ (wShelf B (r 33) (fun k => r (k + 33)) ++ (wShelf B (r 35) (fun k => r (k + 35)) ++ (wShelf B (r 37) (fun k => r (k + 37)) ++ (wShelf B (r 39) (fun k => r (k + 39)) ++ (wShelf B (r 41) (fun k => r (k + 41)) ++ (wShelf B (r 43) (fun k => r (k + 43)) ++ (wSteps B (r 45) (fun k => r (k + 45)) ++ (wSet B (r 48) (fun k => r (k + 48)) ++ (wShort B (r 59) (fun k => r (k + 59))))))))))))))))
def oX5 (r : Nat → Nat) : va_E := .inr (5, [.ref (r 1), .ref (r 10), .ref (r 19), .int 0, .ref (r 28), .ref (r 45), .ref (r 48), .ref (r 59), .int 0])
def wX5 (B : nBT) (q : Nat) (r : Nat → Nat) : va_W := (q, oX5 r) :: wX5t B r
def rmX5_init : Room := { frames := 4, cells := 62, slots := 3194, locals := 120 }
def aS (B : nBT) (f : Nat → Option Nat) : va_E := .inl (B.2.2.2.1, 8, .inr (.inr (.inr (.inr f))))
theorem hinX5_4 : ∀ w ∈ wsX40, w ∈ wsX5_init := fun _ h => List.mem_cons_of_mem _ (List.mem_append_left _ (List.mem_append_left _ (List.mem_append_left _ (List.mem_append_left _ (List.mem_append_left _ (List.mem_append_right _ h))))))
theorem hinX5_5 : ∀ w ∈ wsX50, w ∈ wsX5_init := fun _ h => List.mem_cons_of_mem _ (List.mem_append_left _ (List.mem_append_left _ (List.mem_append_left _ (List.mem_append_left _ (List.mem_append_right _ h)))))
theorem hinX5_1 : ∀ w ∈ wsX10, w ∈ wsX5_init := fun _ h => List.mem_cons_of_mem _ (List.mem_append_left _ (List.mem_append_left _ (List.mem_append_left _ (List.mem_append_right _ h))))
theorem hinX5_3 : ∀ w ∈ wsX30, w ∈ wsX5_init := fun _ h => List.mem_cons_of_mem _ (List.mem_append_left _ (List.mem_append_left _ (List.mem_append_right _ h)))
theorem hinX5_0 : ∀ w ∈ wsX00, w ∈ wsX5_init := fun _ h => List.mem_cons_of_mem _ (List.mem_append_left _ (List.mem_append_right _ h))
theorem hinX5_2 : ∀ w ∈ wsX20, w ∈ wsX5_init := fun _ h => List.mem_cons_of_mem _ (List.mem_append_right _ h)
theorem dfvX4 : ∀ j, j < 13 → defaultValue (tyX4 j) = vp_V fsX4 j := fun j hj => by rcases (show j = 0 ∨ j = 1 ∨ j = 2 ∨ j = 3 ∨ j = 4 ∨ j = 5 ∨ j = 6 ∨ j = 7 ∨ j = 8 ∨ j = 9 ∨ j = 10 ∨ j = 11 ∨ j = 12 by omega) with rfl | rfl | rfl | rfl | rfl | rfl | rfl | rfl | rfl | rfl | rfl | rfl | rfl <;> rfl
theorem ndiX4 : yX4_init.cls ≠ "java/lang/invoke/MethodHandle" ∧ yX4_init.cls ≠ "java/lang/invoke/VarHandle" ∧ (parseMethodDescriptor yX4_init.desc).map (fun d => d.parameters.length) = some 0 := by decide +kernel
theorem dfvX1 : ∀ j, j < 6 → defaultValue (tyX1 j) = vp_V fsX1 j := fun j hj => by rcases (show j = 0 ∨ j = 1 ∨ j = 2 ∨ j = 3 ∨ j = 4 ∨ j = 5 by omega) with rfl | rfl | rfl | rfl | rfl | rfl <;> rfl
theorem ndiX1 : yX1_init.cls ≠ "java/lang/invoke/MethodHandle" ∧ yX1_init.cls ≠ "java/lang/invoke/VarHandle" ∧ (parseMethodDescriptor yX1_init.desc).map (fun d => d.parameters.length) = some 0 := by decide +kernel
theorem dfvX3 : ∀ j, j < 3 → defaultValue (tyX3 j) = vp_V fsX3 j := fun j hj => by rcases (show j = 0 ∨ j = 1 ∨ j = 2 by omega) with rfl | rfl | rfl <;> rfl
theorem ndiX3 : yX3_init.cls ≠ "java/lang/invoke/MethodHandle" ∧ yX3_init.cls ≠ "java/lang/invoke/VarHandle" ∧ (parseMethodDescriptor yX3_init.desc).map (fun d => d.parameters.length) = some 0 := by decide +kernel
theorem dfvX0 : ∀ j, j < 3 → defaultValue (tyX0 j) = vp_V fsX0 j := fun j hj => by rcases (show j = 0 ∨ j = 1 ∨ j = 2 by omega) with rfl | rfl | rfl <;> rfl
theorem ndiX0 : yX0_init.cls ≠ "java/lang/invoke/MethodHandle" ∧ yX0_init.cls ≠ "java/lang/invoke/VarHandle" ∧ (parseMethodDescriptor yX0_init.desc).map (fun d => d.parameters.length) = some 0 := by decide +kernel
theorem dfvX2 : ∀ j, j < 3 → defaultValue (tyX2 j) = vp_V fsX2 j := fun j hj => by rcases (show j = 0 ∨ j = 1 ∨ j = 2 by omega) with rfl | rfl | rfl <;> rfl
theorem ndiX2 : yX2_init.cls ≠ "java/lang/invoke/MethodHandle" ∧ yX2_init.cls ≠ "java/lang/invoke/VarHandle" ∧ (parseMethodDescriptor yX2_init.desc).map (fun d => d.parameters.length) = some 0 := by decide +kernel
set_option maxRecDepth 20000 in
theorem kX5_it {p : Program} {l : Launch} {e : Env} {R : Room} {s : State} {m : MethodId} {args : Array Value} {below : List Frame} {meth : Method} {c : Code} {cells slots : Nat} {Q : State → Prop} {D : va_G} {B : nBT} {A : Nat → Prop} (C0 : kC p s m args meth c D B 2 cX5_init wsX5_init RX5 A) {q a : Nat} {fs : List Value} {W1 W2 : va_W} {f : Nat → Option Nat} (ha : fs[4]? = some (.ref a)) {i : Nat} (hi : i < 8) (hc : cells + 1 + 1 ≤ R.cells) (hs : slots + 6 + 100 ≤ R.slots) (hR : 3 ≤ R.frames ∧ 60 ≤ R.locals)
    (k : ∀ (v : Nat) (rv : Nat → Nat), kJ p l e R s m args below meth c (cells + 1 + 1) (slots + 6 + 100) Q D A 2 48 [(1, .int (nI (i + 1))), (0, .ref q)] [] ((q, .inr (5, fs)) :: (W1 ++ (a, aS B (va_up f i (some v))) :: (W2 ++ wShelf B v rv)))) : kJ p l e R s m args below meth c cells slots Q D A 2 48 [(1, .int (nI i)), (0, .ref q)] [] ((q, .inr (5, fs)) :: (W1 ++ (a, aS B f) :: W2)) := by
  refine kx_iload_n C0 0 dX5_init_48 rfl ?_
  refine kx_bipush (v := 8) C0 dX5_init_49 (by decide) ?_
  refine kx_icmp_ge (tgt := 73) C0 dX5_init_51 (by decide) (fun z => absurd z (nle8 hi)) (fun _ => ?_)
  refine kx_aload_n C0 1 dX5_init_54 rfl ?_
  refine kx_get (T := TX5) (N := 9) (ci := 5) (j := 4) C0 rfl hinX5_5 (by decide) (by decide +kernel) rfl ha dX5_init_55 ?_
  refine kx_iload_n C0 0 dX5_init_58 rfl ?_
  refine kx_ctorN C0 rfl tyX1 tyX1_ok rfl hinX5_1 (by decide +kernel) (by decide +kernel) (by decide +kernel) dfvX1 (kX1 l D B) gX5_init_X1_init_n28 rfl rfl rfl (by decide +kernel) (by decide) (by decide +kernel) rfl ndiX1 ⟨hR.1, hR.2⟩ (Nat.le_of_ble_eq_true rfl) (by omega) (by omega) hc hs dX5_init_59 dX5_init_62 dX5_init_63 (fun v rv => ?_)
  refine kx_ws (ws' := (q, .inr (5, fs)) :: (W1 ++ (a, aS B f) :: (W2 ++ (v, .inr (1, [.int 0, .int 0, .int 0, .int 0, .int 0, .ref (rv 1)])) :: [(rv 1, nIa B 100 z0)]))) (by rw [wShelf, List.cons_append, List.append_assoc, List.cons_append]) ?_
  refine kx_astS C0 (nin8 hi) dX5_init_66 ?_
  rw [nI_clamp (by omega)]
  refine kx_iinc (lv' := [(1, .int (nI (i + 1))), (0, .ref q)]) C0 0 dX5_init_67 rfl (nI_succ i).symm (by decide) rfl ?_
  exact kx_goto (tgt := 48) C0 dX5_init_70 (by decide) (k v rv)
theorem wSet_c {B : nBT} {q : Nat} {r r2 : Nat → Nat} (h : ∀ k, k < 11 → r k = r2 k) : wSet B q r = wSet B q r2 := by
  have e1 : (fun i => if i < 8 then some (r (i + 3)) else none) = (fun i => if i < 8 then some (r2 (i + 3)) else none) := by
    funext i
    by_cases hi : i < 8
    · rw [if_pos hi, if_pos hi, h (i + 3) (by omega)]
    · rw [if_neg hi, if_neg hi]
  have e2 : (List.range 8).map (fun i => (r (i + 3), nIa B 256 z0)) = (List.range 8).map (fun i => (r2 (i + 3), nIa B 256 z0)) := by
    apply List.map_congr_left
    intro i hi
    rw [h (i + 3) (by have := List.mem_range.mp hi; omega)]
  unfold wSet
  rw [e1, e2, h 1 (by omega), h 2 (by omega)]
def rX5 (t1 t2 t3 qs s0 s1 s2 s3 s4 s5 s6 s7 st se sh : Nat) (rt1 rt2 rt3 rs0 rs1 rs2 rs3 rs4 rs5 rs6 rs7 rst rse rsh : Nat → Nat) : Nat → Nat := fun k => ([0, t1, rt1 1, rt1 2, rt1 3, rt1 4, rt1 5, rt1 6, rt1 7, rt1 8, t2, rt2 1, rt2 2, rt2 3, rt2 4, rt2 5, rt2 6, rt2 7, rt2 8, t3, rt3 1, rt3 2, rt3 3, rt3 4, rt3 5, rt3 6, rt3 7, rt3 8, qs, s0, rs0 1, s1, rs1 1, s2, rs2 1, s3, rs3 1, s4, rs4 1, s5, rs5 1, s6, rs6 1, s7, rs7 1, st, rst 1, rst 2, se, rse 1, rse 2, rse 3, rse 4, rse 5, rse 6, rse 7, rse 8, rse 9, rse 10, sh, rsh 1, rsh 2, rsh 3] : List Nat).getD k 0
theorem kX5_ups {t1 t2 t3 qs s0 s1 s2 s3 s4 s5 s6 s7 st se sh : Nat} {rt1 rt2 rt3 rs0 rs1 rs2 rs3 rs4 rs5 rs6 rs7 rst rse rsh : Nat → Nat} : ((va_up (va_up (va_up (va_up (va_up (va_up (va_up (va_up (fun _ => none) 0 (some s0)) 1 (some s1)) 2 (some s2)) 3 (some s3)) 4 (some s4)) 5 (some s5)) 6 (some s6)) 7 (some s7)) : Nat → Option Nat) = (fun i => if i < 8 then some ((rX5 t1 t2 t3 qs s0 s1 s2 s3 s4 s5 s6 s7 st se sh rt1 rt2 rt3 rs0 rs1 rs2 rs3 rs4 rs5 rs6 rs7 rst rse rsh) (29 + 2 * i)) else none) := by
  funext i
  match i with
  | 0 => rfl
  | 1 => rfl
  | 2 => rfl
  | 3 => rfl
  | 4 => rfl
  | 5 => rfl
  | 6 => rfl
  | 7 => rfl
  | i + 8 =>
    rw [if_neg (by omega)]
    simp [va_up]
set_option maxRecDepth 20000 in
theorem kX5_end (B : nBT) (q t1 t2 t3 qs s0 s1 s2 s3 s4 s5 s6 s7 st se sh : Nat) (rt1 rt2 rt3 rs0 rs1 rs2 rs3 rs4 rs5 rs6 rs7 rst rse rsh : Nat → Nat) : ((q, .inr (5, [.ref t1, .ref t2, .ref t3, .int 0, .ref qs, .ref st, .ref se, .ref sh, .int 0])) :: ((((((([] ++ wTown B t1 rt1) ++ wTown B t2 rt2) ++ wTown B t3 rt3) ++ (qs, aS B (va_up (va_up (va_up (va_up (va_up (va_up (va_up (va_up (fun _ => none) 0 (some s0)) 1 (some s1)) 2 (some s2)) 3 (some s3)) 4 (some s4)) 5 (some s5)) 6 (some s6)) 7 (some s7))) :: (((((((([] ++ wShelf B s0 rs0) ++ wShelf B s1 rs1) ++ wShelf B s2 rs2) ++ wShelf B s3 rs3) ++ wShelf B s4 rs4) ++ wShelf B s5 rs5) ++ wShelf B s6 rs6) ++ wShelf B s7 rs7)) ++ wSteps B st rst) ++ wSet B se rse) ++ wShort B sh rsh) : va_W) = wX5 B q (rX5 t1 t2 t3 qs s0 s1 s2 s3 s4 s5 s6 s7 st se sh rt1 rt2 rt3 rs0 rs1 rs2 rs3 rs4 rs5 rs6 rs7 rst rse rsh) := by
  have e1 := kX5_ups (t1 := t1) (t2 := t2) (t3 := t3) (qs := qs) (s0 := s0) (s1 := s1) (s2 := s2) (s3 := s3) (s4 := s4) (s5 := s5) (s6 := s6) (s7 := s7) (st := st) (se := se) (sh := sh) (rt1 := rt1) (rt2 := rt2) (rt3 := rt3) (rs0 := rs0) (rs1 := rs1) (rs2 := rs2) (rs3 := rs3) (rs4 := rs4) (rs5 := rs5) (rs6 := rs6) (rs7 := rs7) (rst := rst) (rse := rse) (rsh := rsh)
  have e2 : wSet B se rse = wSet B se (fun k => if k = 0 then rse 0 else (rX5 t1 t2 t3 qs s0 s1 s2 s3 s4 s5 s6 s7 st se sh rt1 rt2 rt3 rs0 rs1 rs2 rs3 rs4 rs5 rs6 rs7 rst rse rsh) (k + 48)) := wSet_c (fun k hk => by
    match k, hk with
    | 0, _ => rfl
    | 1, _ => rfl
    | 2, _ => rfl
    | 3, _ => rfl
    | 4, _ => rfl
    | 5, _ => rfl
    | 6, _ => rfl
    | 7, _ => rfl
    | 8, _ => rfl
    | 9, _ => rfl
    | 10, _ => rfl
    | k + 11, hk => omega)
  have e3 : wSet B se (fun k => if k = 0 then rse 0 else (rX5 t1 t2 t3 qs s0 s1 s2 s3 s4 s5 s6 s7 st se sh rt1 rt2 rt3 rs0 rs1 rs2 rs3 rs4 rs5 rs6 rs7 rst rse rsh) (k + 48)) = wSet B ((rX5 t1 t2 t3 qs s0 s1 s2 s3 s4 s5 s6 s7 st se sh rt1 rt2 rt3 rs0 rs1 rs2 rs3 rs4 rs5 rs6 rs7 rst rse rsh) 48) (fun k => (rX5 t1 t2 t3 qs s0 s1 s2 s3 s4 s5 s6 s7 st se sh rt1 rt2 rt3 rs0 rs1 rs2 rs3 rs4 rs5 rs6 rs7 rst rse rsh) (k + 48)) := rfl
  rw [e1, e2, e3]
  rfl
set_option maxRecDepth 20000 in
theorem kX5 (l : Launch) (D : va_G) (B : nBT) : kM l D B yX5_init wsX5_init rmX5_init (.inr (5, fsX5)) (wX5 B) 62 3194 := by
  refine kmet (cc := cX5_init) (maxL := 2) (own := RX5) 62 3194 (by decide) rfl rfl rfl (Nat.le_of_ble_eq_true rfl) (fun p e s m args below meth c q C0 hr hn => ?_)
  refine kx_lv (lv' := [(0, .ref q)]) [0] rfl ?_
  refine kx_aload_n C0 0 dX5_init_0 rfl ?_
  refine kx_obj C0 (by decide +kernel) (by decide +kernel) (by decide +kernel) dX5_init_1 (Nat.le_of_ble_eq_true rfl) (Nat.le_of_ble_eq_true rfl) ?_
  refine kx_aload_n C0 0 dX5_init_4 rfl ?_
  refine kx_ctor C0 tyX4 tyX4_ok rfl hinX5_4 (by decide +kernel) (by decide +kernel) (by decide +kernel) dfvX4 (kX4 l D B) gX5_init_X4_init rfl rfl rfl (by decide +kernel) (by decide +kernel) (by decide +kernel) rfl ndiX4 ⟨(Nat.le_of_ble_eq_true rfl), (Nat.le_of_ble_eq_true rfl)⟩ (Nat.le_of_ble_eq_true rfl) (Nat.le_of_ble_eq_true rfl) (Nat.le_of_ble_eq_true rfl) (Nat.le_of_ble_eq_true rfl) (Nat.le_of_ble_eq_true rfl) dX5_init_5 dX5_init_8 dX5_init_9 (fun t1 rt1 => ?_)
  refine kx_ws (ws' := (q, .inr (5, [.null, .null, .null, .int 0, .null, .null, .null, .null, .int 0])) :: ([] ++ wTown B t1 rt1)) rfl ?_
  refine kx_putF (T := TX5) (N := 9) (ci := 5) (j := 0) (ty := .object "NotInTheCoin$Town") (fs' := [.ref t1, .null, .null, .int 0, .null, .null, .null, .null, .int 0]) C0 hn tyX5 tyX5_ok nmX5 rfl hinX5_5 (by decide) (by decide +kernel) rfl rfl (by decide +kernel) rfl rfl (Nat.le_of_ble_eq_true rfl) rfl dX5_init_12 ?_
  refine kx_aload_n C0 0 dX5_init_15 rfl ?_
  refine kx_ctor C0 tyX4 tyX4_ok rfl hinX5_4 (by decide +kernel) (by decide +kernel) (by decide +kernel) dfvX4 (kX4 l D B) gX5_init_X4_init rfl rfl rfl (by decide +kernel) (by decide +kernel) (by decide +kernel) rfl ndiX4 ⟨(Nat.le_of_ble_eq_true rfl), (Nat.le_of_ble_eq_true rfl)⟩ (Nat.le_of_ble_eq_true rfl) (Nat.le_of_ble_eq_true rfl) (Nat.le_of_ble_eq_true rfl) (Nat.le_of_ble_eq_true rfl) (Nat.le_of_ble_eq_true rfl) dX5_init_16 dX5_init_19 dX5_init_20 (fun t2 rt2 => ?_)
  refine kx_ws (ws' := (q, .inr (5, [.ref t1, .null, .null, .int 0, .null, .null, .null, .null, .int 0])) :: (([] ++ wTown B t1 rt1) ++ wTown B t2 rt2)) rfl ?_
  refine kx_putF (T := TX5) (N := 9) (ci := 5) (j := 1) (ty := .object "NotInTheCoin$Town") (fs' := [.ref t1, .ref t2, .null, .int 0, .null, .null, .null, .null, .int 0]) C0 hn tyX5 tyX5_ok nmX5 rfl hinX5_5 (by decide) (by decide +kernel) rfl rfl (by decide +kernel) rfl rfl (Nat.le_of_ble_eq_true rfl) rfl dX5_init_23 ?_
  refine kx_aload_n C0 0 dX5_init_26 rfl ?_
  refine kx_ctor C0 tyX4 tyX4_ok rfl hinX5_4 (by decide +kernel) (by decide +kernel) (by decide +kernel) dfvX4 (kX4 l D B) gX5_init_X4_init rfl rfl rfl (by decide +kernel) (by decide +kernel) (by decide +kernel) rfl ndiX4 ⟨(Nat.le_of_ble_eq_true rfl), (Nat.le_of_ble_eq_true rfl)⟩ (Nat.le_of_ble_eq_true rfl) (Nat.le_of_ble_eq_true rfl) (Nat.le_of_ble_eq_true rfl) (Nat.le_of_ble_eq_true rfl) (Nat.le_of_ble_eq_true rfl) dX5_init_27 dX5_init_30 dX5_init_31 (fun t3 rt3 => ?_)
  refine kx_ws (ws' := (q, .inr (5, [.ref t1, .ref t2, .null, .int 0, .null, .null, .null, .null, .int 0])) :: ((([] ++ wTown B t1 rt1) ++ wTown B t2 rt2) ++ wTown B t3 rt3)) rfl ?_
  refine kx_putF (T := TX5) (N := 9) (ci := 5) (j := 2) (ty := .object "NotInTheCoin$Town") (fs' := [.ref t1, .ref t2, .ref t3, .int 0, .null, .null, .null, .null, .int 0]) C0 hn tyX5 tyX5_ok nmX5 rfl hinX5_5 (by decide) (by decide +kernel) rfl rfl (by decide +kernel) rfl rfl (Nat.le_of_ble_eq_true rfl) rfl dX5_init_34 ?_
  refine kx_aload_n C0 0 dX5_init_37 rfl ?_
  refine kx_bipush (v := 8) C0 dX5_init_38 (by decide) ?_
  refine kx_newq (N' := 8) C0 (by decide +kernel) (by decide) (by decide) (Nat.le_of_ble_eq_true rfl) (Nat.le_of_ble_eq_true rfl) (Nat.le_of_ble_eq_true rfl) dX5_init_40 (fun qs => ?_)
  refine kx_putF (T := TX5) (N := 9) (ci := 5) (j := 4) (ty := .array (.object "NotInTheCoin$Shelf")) (fs' := [.ref t1, .ref t2, .ref t3, .int 0, .ref qs, .null, .null, .null, .int 0]) C0 hn tyX5 tyX5_ok nmX5 rfl hinX5_5 (by decide) (by decide +kernel) rfl rfl (by decide +kernel) rfl rfl (Nat.le_of_ble_eq_true rfl) rfl dX5_init_43 ?_
  refine kx_iconst (v := 0) C0 dX5_init_46 (by decide) ?_
  refine kx_istore_n (lv' := [(1, .int (nI 0)), (0, .ref q)]) C0 dX5_init_47 rfl (by decide) rfl ?_
  refine kx_ws (ws' := (q, .inr (5, [.ref t1, .ref t2, .ref t3, .int 0, .ref qs, .null, .null, .null, .int 0])) :: (((([] ++ wTown B t1 rt1) ++ wTown B t2 rt2) ++ wTown B t3 rt3) ++ (qs, aS B (fun _ => none)) :: [])) rfl ?_
  refine kX5_it C0 rfl (i := 0) (by decide) (Nat.le_of_ble_eq_true rfl) (Nat.le_of_ble_eq_true rfl) ⟨(Nat.le_of_ble_eq_true rfl), (Nat.le_of_ble_eq_true rfl)⟩ (fun s0 rs0 => ?_)
  refine kX5_it C0 rfl (i := 1) (by decide) (Nat.le_of_ble_eq_true rfl) (Nat.le_of_ble_eq_true rfl) ⟨(Nat.le_of_ble_eq_true rfl), (Nat.le_of_ble_eq_true rfl)⟩ (fun s1 rs1 => ?_)
  refine kX5_it C0 rfl (i := 2) (by decide) (Nat.le_of_ble_eq_true rfl) (Nat.le_of_ble_eq_true rfl) ⟨(Nat.le_of_ble_eq_true rfl), (Nat.le_of_ble_eq_true rfl)⟩ (fun s2 rs2 => ?_)
  refine kX5_it C0 rfl (i := 3) (by decide) (Nat.le_of_ble_eq_true rfl) (Nat.le_of_ble_eq_true rfl) ⟨(Nat.le_of_ble_eq_true rfl), (Nat.le_of_ble_eq_true rfl)⟩ (fun s3 rs3 => ?_)
  refine kX5_it C0 rfl (i := 4) (by decide) (Nat.le_of_ble_eq_true rfl) (Nat.le_of_ble_eq_true rfl) ⟨(Nat.le_of_ble_eq_true rfl), (Nat.le_of_ble_eq_true rfl)⟩ (fun s4 rs4 => ?_)
  refine kX5_it C0 rfl (i := 5) (by decide) (Nat.le_of_ble_eq_true rfl) (Nat.le_of_ble_eq_true rfl) ⟨(Nat.le_of_ble_eq_true rfl), (Nat.le_of_ble_eq_true rfl)⟩ (fun s5 rs5 => ?_)
  refine kX5_it C0 rfl (i := 6) (by decide) (Nat.le_of_ble_eq_true rfl) (Nat.le_of_ble_eq_true rfl) ⟨(Nat.le_of_ble_eq_true rfl), (Nat.le_of_ble_eq_true rfl)⟩ (fun s6 rs6 => ?_)
  refine kX5_it C0 rfl (i := 7) (by decide) (Nat.le_of_ble_eq_true rfl) (Nat.le_of_ble_eq_true rfl) ⟨(Nat.le_of_ble_eq_true rfl), (Nat.le_of_ble_eq_true rfl)⟩ (fun s7 rs7 => ?_)
  refine kx_iload_n C0 0 dX5_init_48 rfl ?_
  refine kx_bipush (v := 8) C0 dX5_init_49 (by decide) ?_
  refine kx_icmp_ge (tgt := 73) C0 dX5_init_51 (by decide) (fun _ => ?_) (fun z => absurd (by decide) z)
  refine kx_aload_n C0 1 dX5_init_73 rfl ?_
  refine kx_ctorN C0 rfl tyX3 tyX3_ok rfl hinX5_3 (by decide +kernel) (by decide +kernel) (by decide +kernel) dfvX3 (kX3 l D B) gX5_init_X3_init_n31 rfl rfl rfl (by decide +kernel) (by decide) (by decide +kernel) rfl ndiX3 ⟨(Nat.le_of_ble_eq_true rfl), (Nat.le_of_ble_eq_true rfl)⟩ (Nat.le_of_ble_eq_true rfl) (Nat.le_of_ble_eq_true rfl) (Nat.le_of_ble_eq_true rfl) (Nat.le_of_ble_eq_true rfl) (Nat.le_of_ble_eq_true rfl) dX5_init_74 dX5_init_77 dX5_init_78 (fun st rst => ?_)
  refine kx_ws (ws' := (q, .inr (5, [.ref t1, .ref t2, .ref t3, .int 0, .ref qs, .null, .null, .null, .int 0])) :: ((((([] ++ wTown B t1 rt1) ++ wTown B t2 rt2) ++ wTown B t3 rt3) ++ (qs, aS B (va_up (va_up (va_up (va_up (va_up (va_up (va_up (va_up (fun _ => none) 0 (some s0)) 1 (some s1)) 2 (some s2)) 3 (some s3)) 4 (some s4)) 5 (some s5)) 6 (some s6)) 7 (some s7))) :: (((((((([] ++ wShelf B s0 rs0) ++ wShelf B s1 rs1) ++ wShelf B s2 rs2) ++ wShelf B s3 rs3) ++ wShelf B s4 rs4) ++ wShelf B s5 rs5) ++ wShelf B s6 rs6) ++ wShelf B s7 rs7)) ++ wSteps B st rst)) rfl ?_
  refine kx_putF (T := TX5) (N := 9) (ci := 5) (j := 5) (ty := .object "NotInTheCoin$Steps") (fs' := [.ref t1, .ref t2, .ref t3, .int 0, .ref qs, .ref st, .null, .null, .int 0]) C0 hn tyX5 tyX5_ok nmX5 rfl hinX5_5 (by decide) (by decide +kernel) rfl rfl (by decide +kernel) rfl rfl (Nat.le_of_ble_eq_true rfl) rfl dX5_init_81 ?_
  refine kx_aload_n C0 1 dX5_init_84 rfl ?_
  refine kx_ctorN C0 rfl tyX0 tyX0_ok rfl hinX5_0 (by decide +kernel) (by decide +kernel) (by decide +kernel) dfvX0 (kX0 l D B) gX5_init_X0_init_n38 rfl rfl rfl (by decide +kernel) (by decide) (by decide +kernel) rfl ndiX0 ⟨(Nat.le_of_ble_eq_true rfl), (Nat.le_of_ble_eq_true rfl)⟩ (Nat.le_of_ble_eq_true rfl) (Nat.le_of_ble_eq_true rfl) (Nat.le_of_ble_eq_true rfl) (Nat.le_of_ble_eq_true rfl) (Nat.le_of_ble_eq_true rfl) dX5_init_85 dX5_init_88 dX5_init_89 (fun se rse => ?_)
  refine kx_ws (ws' := (q, .inr (5, [.ref t1, .ref t2, .ref t3, .int 0, .ref qs, .ref st, .null, .null, .int 0])) :: (((((([] ++ wTown B t1 rt1) ++ wTown B t2 rt2) ++ wTown B t3 rt3) ++ (qs, aS B (va_up (va_up (va_up (va_up (va_up (va_up (va_up (va_up (fun _ => none) 0 (some s0)) 1 (some s1)) 2 (some s2)) 3 (some s3)) 4 (some s4)) 5 (some s5)) 6 (some s6)) 7 (some s7))) :: (((((((([] ++ wShelf B s0 rs0) ++ wShelf B s1 rs1) ++ wShelf B s2 rs2) ++ wShelf B s3 rs3) ++ wShelf B s4 rs4) ++ wShelf B s5 rs5) ++ wShelf B s6 rs6) ++ wShelf B s7 rs7)) ++ wSteps B st rst) ++ wSet B se rse)) rfl ?_
  refine kx_putF (T := TX5) (N := 9) (ci := 5) (j := 6) (ty := .object "NotInTheCoin$Settling") (fs' := [.ref t1, .ref t2, .ref t3, .int 0, .ref qs, .ref st, .ref se, .null, .int 0]) C0 hn tyX5 tyX5_ok nmX5 rfl hinX5_5 (by decide) (by decide +kernel) rfl rfl (by decide +kernel) rfl rfl (Nat.le_of_ble_eq_true rfl) rfl dX5_init_92 ?_
  refine kx_aload_n C0 1 dX5_init_95 rfl ?_
  refine kx_ctorN C0 rfl tyX2 tyX2_ok rfl hinX5_2 (by decide +kernel) (by decide +kernel) (by decide +kernel) dfvX2 (kX2 l D B) gX5_init_X2_init_n45 rfl rfl rfl (by decide +kernel) (by decide) (by decide +kernel) rfl ndiX2 ⟨(Nat.le_of_ble_eq_true rfl), (Nat.le_of_ble_eq_true rfl)⟩ (Nat.le_of_ble_eq_true rfl) (Nat.le_of_ble_eq_true rfl) (Nat.le_of_ble_eq_true rfl) (Nat.le_of_ble_eq_true rfl) (Nat.le_of_ble_eq_true rfl) dX5_init_96 dX5_init_99 dX5_init_100 (fun sh rsh => ?_)
  refine kx_ws (ws' := (q, .inr (5, [.ref t1, .ref t2, .ref t3, .int 0, .ref qs, .ref st, .ref se, .null, .int 0])) :: ((((((([] ++ wTown B t1 rt1) ++ wTown B t2 rt2) ++ wTown B t3 rt3) ++ (qs, aS B (va_up (va_up (va_up (va_up (va_up (va_up (va_up (va_up (fun _ => none) 0 (some s0)) 1 (some s1)) 2 (some s2)) 3 (some s3)) 4 (some s4)) 5 (some s5)) 6 (some s6)) 7 (some s7))) :: (((((((([] ++ wShelf B s0 rs0) ++ wShelf B s1 rs1) ++ wShelf B s2 rs2) ++ wShelf B s3 rs3) ++ wShelf B s4 rs4) ++ wShelf B s5 rs5) ++ wShelf B s6 rs6) ++ wShelf B s7 rs7)) ++ wSteps B st rst) ++ wSet B se rse) ++ wShort B sh rsh)) rfl ?_
  refine kx_putF (T := TX5) (N := 9) (ci := 5) (j := 7) (ty := .object "NotInTheCoin$ShortList") (fs' := [.ref t1, .ref t2, .ref t3, .int 0, .ref qs, .ref st, .ref se, .ref sh, .int 0]) C0 hn tyX5 tyX5_ok nmX5 rfl hinX5_5 (by decide) (by decide +kernel) rfl rfl (by decide +kernel) rfl rfl (Nat.le_of_ble_eq_true rfl) rfl dX5_init_103 ?_
  exact kx_vret C0 (w := wX5 B q) (rX5 t1 t2 t3 qs s0 s1 s2 s3 s4 s5 s6 s7 st se sh rt1 rt2 rt3 rs0 rs1 rs2 rs3 rs4 rs5 rs6 rs7 rst rse rsh) (kX5_end B q t1 t2 t3 qs s0 s1 s2 s3 s4 s5 s6 s7 st se sh rt1 rt2 rt3 rs0 rs1 rs2 rs3 rs4 rs5 rs6 rs7 rst rse rsh) (Nat.le_of_ble_eq_true rfl) (Nat.le_of_ble_eq_true rfl) hr dX5_init_106
