/-! CONSTRUCTORS 1: rows over a world that is a list; the first cell is the object that is being made -/
def kNest : List (Nat × MethodName) := [(28, yX1_init), (31, yX3_init), (38, yX0_init), (45, yX2_init)]
def kN (U : State) : Prop := (∀ q ∈ kNest, va_Nw (.methodLinkNest RX5 q.1 q.2 "NotInTheCoin") U) ∧ va_AO "NotInTheCoin$Shelf" U ∧ va_AOA .int U
theorem kN.warm {s U : State} (hW : s.WarmedH U.vm) (h : kN s) : kN U := ⟨fun q hq => va_Nw.warmM hW (h.1 q hq), va_AO.moved hW.alike h.2.1, va_AOA.alike hW.alike h.2.2⟩
theorem kN.same {s U : State} (e : s.vm = U.vm) (h : kN s) : kN U := ⟨fun q hq => va_Nw.same rfl e (h.1 q hq), va_AO.moved (by rw [e]; exact Vm.Alike.refl U.vm) h.2.1, va_AOA.ride e h.2.2⟩
def kPc (D : va_G) (B : nBT) (q : Nat) (e : va_E) (sz : Nat) (U : State) : Prop := U.heap.size = sz ∧ va_P D vwCl [(q, e)] U.heap ∧ va_K D vwCl (nTy B) U ∧ kN U
def kPo (D : va_G) (A : Nat → Prop) (w : (Nat → Nat) → va_W) (r : Nat → Nat) (t : State) : Prop := va_P D vwCl (w r) t.heap ∧ va_D A (w r)
def kM (l : Launch) (D : va_G) (B : nBT) (y : MethodName) (ws : List Cond) (rm : Room) (e : va_E) (w : Nat → (Nat → Nat) → va_W) (mc ms : Nat) : Prop := ∀ q sz : Nat, Met l y ws rm (va_Pc [.ref q] (kPc D B q e sz)) (va_Qv (fun _ : Nat → Nat => True) (kPo D (va_A [(q, e)] sz) (w q)) (va_A [(q, e)] sz)) mc ms (va_A [(q, e)] sz)
theorem kblind {D : va_G} {B : nBT} {q : Nat} {e : va_E} {sz : Nat} {av : List Value} : FrameBlind (va_Pc av (kPc D B q e sz)) := fun a U g mk z => ⟨z.1, z.2.1, z.2.2.1, va_K.moved (u := U) (U := U.calling g mk a) (Vm.Alike.refl U.vm) z.2.2.2.1, kN.same (s := U) (U := U.calling g mk a) rfl z.2.2.2.2⟩
theorem kjoin {A0 : Nat → Prop} {D : va_G} {cl : List vw_C} {ws w1 : va_W} {q : Nat} {e : va_E} {H H1 : Heap} (hP : va_P D cl (ws ++ [(q, e)]) H) (hD : va_D A0 (ws ++ [(q, e)]))
    (hk : ∀ a : Nat, a < H.size → ¬ va_A [(q, e)] H.size a → H1[a]? = H[a]?) (hF : ∀ a, va_A [(q, e)] H.size a → A0 a) (hP1 : va_P D cl w1 H1) (hD1 : va_D (va_A [(q, e)] H.size) w1) : va_P D cl (ws ++ w1) H1 ∧ va_D A0 (ws ++ w1) := by
  have inl : ∀ (k : Nat) (x : Nat × va_E), ws[k]? = some x → (ws ++ [(q, e)])[k]? = some x := fun k x hx => by
    rw [List.getElem?_append_left (List.getElem?_eq_some_iff.mp hx).1]; exact hx
  have apart : ∀ (k : Nat) (x : Nat × va_E), ws[k]? = some x → x.1 < H.size ∧ ¬ va_A [(q, e)] H.size x.1 := by
    intro k x hx
    have hl := (hP k x (inl k x hx)).lt
    refine ⟨hl, fun h => ?_⟩
    rcases h with ⟨k2, e2, h⟩ | h
    · have hk2 : k2 < 1 := (List.getElem?_eq_some_iff.mp h).1
      rw [show k2 = 0 by omega] at h
      have hq : q = x.1 := congrArg Prod.fst (Option.some.inj h)
      have hlast : (ws ++ [(q, e)])[ws.length]? = some (q, e) := by rw [List.getElem?_append_right (Nat.le_refl _), Nat.sub_self]; rfl
      have := hD.1 k ws.length x (q, e) (inl k x hx) hlast hq.symm
      have := (List.getElem?_eq_some_iff.mp hx).1
      omega
    · omega
  refine ⟨va_P.app (fun k x hx => (hP k x (inl k x hx)).kept (hk x.1 (apart k x hx).1 (apart k x hx).2)) hP1, va_D.app ⟨fun i j x y hx hy hxy => hD.1 i j x y (inl i x hx) (inl j y hy) hxy, fun k x hx => hD.2 k x (inl k x hx)⟩ (hD1.weaken (fun k x _ h => hF x.1 h)) (fun i j x y hx hy hxy => (apart i x hx).2 (by rw [hxy]; exact hD1.2 j y hy))⟩
theorem kl_get {W1 W2 : va_W} {x y : Nat × va_E} : (x :: (W1 ++ y :: W2))[W1.length + 1]? = some y := by simp
theorem kl_set {W1 W2 : va_W} {x y z : Nat × va_E} : (x :: (W1 ++ y :: W2)).set (W1.length + 1) z = x :: (W1 ++ z :: W2) := by simp [List.set_append]
section KX
variable {p : Program} {l : Launch} {e : Env} {R : Room} {s : State} {m : MethodId} {args : Array Value} {below : List Frame} {meth : Method} {c : Code} {cells slots : Nat} {Q : State → Prop}
variable {D : va_G} {B : nBT} {nL : Nat} {cc : ByteArray} {Ts : List Cond} {own : String} {A : Nat → Prop}
def kC (p : Program) (s : State) (m : MethodId) (args : Array Value) (meth : Method) (c : Code) (D : va_G) (B : nBT) (nL : Nat) (cc : ByteArray) (Ts : List Cond) (own : String) (A : Nat → Prop) : Prop :=
  p.tables.exec = Jvm.exec ∧ c.code = cc ∧ c.maxLocals = nL ∧ s.vm.findClass own = some m.cls ∧ (∀ w ∈ Ts, w.before args s = true) ∧ va_K D vwCl (nTy B) s ∧ kN s ∧ meth.locks = false ∧ ∀ q, s.heap.size ≤ q → A q
def kG (D : va_G) (s : State) (A : Nat → Prop) (ws : va_W) (H : Heap) (locs : List Loc) : Prop := va_P D vwCl ws H ∧ va_D A ws ∧ va_S A s.heap H locs
def kJ (p : Program) (l : Launch) (e : Env) (R : Room) (s : State) (m : MethodId) (args : Array Value) (below : List Frame) (meth : Method) (c : Code) (cells slots : Nat) (Q : State → Prop) (D : va_G) (A : Nat → Prop) (nL : Nat) (pc : Nat) (lv : List (Nat × Value)) (st : List Value) (ws : va_W) : Prop :=
  ∀ (H : Heap) (locs : List Loc) (ls : Array Slot), kG D s A ws H locs → lv_has ls nL lv → W p l e R s m args below meth c H locs cells slots Q (F0 m pc ls st)
variable {pc : Nat} {lv lv' : List (Nat × Value)} {st : List Value} {ws ws' : va_W}
theorem kx_ws (h : ws = ws') (k : kJ p l e R s m args below meth c cells slots Q D A nL pc lv st ws') : kJ p l e R s m args below meth c cells slots Q D A nL pc lv st ws := by subst h; exact k
theorem kx_lv (ks : List Nat) (h : lv_pick lv ks = lv') (k : kJ p l e R s m args below meth c cells slots Q D A nL pc lv' st ws) : kJ p l e R s m args below meth c cells slots Q D A nL pc lv st ws := fun H locs ls hG hl => k H locs ls hG (lv_sub hl ks h)
theorem kx_widen {cells2 slots2 : Nat} (h1 : cells ≤ cells2) (h2 : slots ≤ slots2) (k : kJ p l e R s m args below meth c cells2 slots2 Q D A nL pc lv st ws) : kJ p l e R s m args below meth c cells slots Q D A nL pc lv st ws := fun H locs ls hG hl => W.widen h1 h2 (k H locs ls hG hl)
theorem kx_iconst (C0 : kC p s m args meth c D B nL cc Ts own A) {n : Int} {v : Int32} (hd : decode cc pc = .ok (.iconst n, 1)) (hv : Int32.ofInt n = v) (k : kJ p l e R s m args below meth c cells slots Q D A nL (pc + 1) lv (.int v :: st) ws) : kJ p l e R s m args below meth c cells slots Q D A nL pc lv st ws :=
  fun H locs ls hG hl => lv_iconst C0.1 C0.2.1 hd hv (k H locs ls hG hl)
theorem kx_bipush (C0 : kC p s m args meth c D B nL cc Ts own A) {n : Int} {v : Int32} (hd : decode cc pc = .ok (.bipush n, 2)) (hv : (Int8.ofInt n).toInt32 = v) (k : kJ p l e R s m args below meth c cells slots Q D A nL (pc + 2) lv (.int v :: st) ws) : kJ p l e R s m args below meth c cells slots Q D A nL pc lv st ws :=
  fun H locs ls hG hl => lv_bipush C0.1 C0.2.1 hd hv (k H locs ls hG hl)
theorem kx_sipush (C0 : kC p s m args meth c D B nL cc Ts own A) {n : Int} {v : Int32} (hd : decode cc pc = .ok (.sipush n, 3)) (hv : (Int16.ofInt n).toInt32 = v) (k : kJ p l e R s m args below meth c cells slots Q D A nL (pc + 3) lv (.int v :: st) ws) : kJ p l e R s m args below meth c cells slots Q D A nL pc lv st ws :=
  fun H locs ls hG hl => lv_sipush C0.1 C0.2.1 hd hv (k H locs ls hG hl)
theorem kx_iload_n (C0 : kC p s m args meth c D B nL cc Ts own A) {n : Fin 4} (q : Nat) {x : Int32} (hd : decode cc pc = .ok (.iload_n n, 1)) (hq : lv[q]? = some (n.val, .int x)) (k : kJ p l e R s m args below meth c cells slots Q D A nL (pc + 1) lv (.int x :: st) ws) : kJ p l e R s m args below meth c cells slots Q D A nL pc lv st ws :=
  fun H locs ls hG hl => lv_iload_n C0.1 C0.2.1 hd rfl (lv_at hl q hq) (k H locs ls hG hl)
theorem kx_aload_n (C0 : kC p s m args meth c D B nL cc Ts own A) {n : Fin 4} (q : Nat) {x : Nat} (hd : decode cc pc = .ok (.aload_n n, 1)) (hq : lv[q]? = some (n.val, .ref x)) (k : kJ p l e R s m args below meth c cells slots Q D A nL (pc + 1) lv (.ref x :: st) ws) : kJ p l e R s m args below meth c cells slots Q D A nL pc lv st ws :=
  fun H locs ls hG hl => lv_aload_n C0.1 C0.2.1 hd rfl (lv_at hl q hq) (k H locs ls hG hl)
theorem kx_istore_n (C0 : kC p s m args meth c D B nL cc Ts own A) {n : Fin 4} {i : Nat} {x : Int32} (hd : decode cc pc = .ok (.istore_n n, 1)) (hi : n.val = i) (hn : i < nL) (hl0 : (i, Value.int x) :: lv.filter (fun q => !(q.1 == i) && !(q.1 + 1 == i && q.2.category == 2)) = lv') (k : kJ p l e R s m args below meth c cells slots Q D A nL (pc + 1) lv' st ws) : kJ p l e R s m args below meth c cells slots Q D A nL pc lv (.int x :: st) ws :=
  fun H locs ls hG hl => lv_istore_n C0.1 C0.2.1 hd hi hl hn hl0 (fun ls1 hl1 => k H locs ls1 hG hl1)
theorem kx_istore (C0 : kC p s m args meth c D B nL cc Ts own A) {i : Nat} {x : Int32} (hd : decode cc pc = .ok (.istore i, 2)) (hn : i < nL) (hl0 : (i, Value.int x) :: lv.filter (fun q => !(q.1 == i) && !(q.1 + 1 == i && q.2.category == 2)) = lv') (k : kJ p l e R s m args below meth c cells slots Q D A nL (pc + 2) lv' st ws) : kJ p l e R s m args below meth c cells slots Q D A nL pc lv (.int x :: st) ws :=
  fun H locs ls hG hl => lv_istore C0.1 C0.2.1 hd hl hn hl0 (fun ls1 hl1 => k H locs ls1 hG hl1)
theorem kx_astore_n (C0 : kC p s m args meth c D B nL cc Ts own A) {n : Fin 4} {i : Nat} {x : Nat} (hd : decode cc pc = .ok (.astore_n n, 1)) (hi : n.val = i) (hn : i < nL) (hl0 : (i, Value.ref x) :: lv.filter (fun q => !(q.1 == i) && !(q.1 + 1 == i && q.2.category == 2)) = lv') (k : kJ p l e R s m args below meth c cells slots Q D A nL (pc + 1) lv' st ws) : kJ p l e R s m args below meth c cells slots Q D A nL pc lv (.ref x :: st) ws :=
  fun H locs ls hG hl => lv_astore_n C0.1 C0.2.1 hd hi hl hn hl0 (fun ls1 hl1 => k H locs ls1 hG hl1)
theorem kx_iinc (C0 : kC p s m args meth c D B nL cc Ts own A) {i : Nat} {n : Int} (q : Nat) {x v : Int32} (hd : decode cc pc = .ok (.iinc i n, 3)) (hq : lv[q]? = some (i, .int x)) (hv : x + Int32.ofInt n = v) (hn : i < nL) (hl0 : (i, Value.int v) :: lv.filter (fun q => !(q.1 == i) && !(q.1 + 1 == i && q.2.category == 2)) = lv') (k : kJ p l e R s m args below meth c cells slots Q D A nL (pc + 3) lv' st ws) : kJ p l e R s m args below meth c cells slots Q D A nL pc lv st ws :=
  fun H locs ls hG hl => lv_iinc C0.1 C0.2.1 hd hl hq hv hn hl0 (fun ls1 hl1 => k H locs ls1 hG hl1)
theorem kx_iadd (C0 : kC p s m args meth c D B nL cc Ts own A) {x y : Int32} (hd : decode cc pc = .ok (.iadd, 1)) (k : kJ p l e R s m args below meth c cells slots Q D A nL (pc + 1) lv (.int (x + y) :: st) ws) : kJ p l e R s m args below meth c cells slots Q D A nL pc lv (.int y :: .int x :: st) ws :=
  fun H locs ls hG hl => lv_iadd C0.1 C0.2.1 hd (k H locs ls hG hl)
theorem kx_goto (C0 : kC p s m args meth c D B nL cc Ts own A) {off : Int} {tgt : Nat} (hd : decode cc pc = .ok (.goto off, 3)) (ht : (pc : Int) + off = (tgt : Int)) (k : kJ p l e R s m args below meth c cells slots Q D A nL tgt lv st ws) : kJ p l e R s m args below meth c cells slots Q D A nL pc lv st ws :=
  fun H locs ls hG hl => lv_goto C0.1 C0.2.1 hd ht (k H locs ls hG hl)
theorem kx_icmp_ge (C0 : kC p s m args meth c D B nL cc Ts own A) {x y : Int32} {off : Int} {tgt : Nat} (hd : decode cc pc = .ok (.if_icmp .ge off, 3)) (ht : (pc : Int) + off = (tgt : Int)) (kt : y ≤ x → kJ p l e R s m args below meth c cells slots Q D A nL tgt lv st ws) (kf : ¬ y ≤ x → kJ p l e R s m args below meth c cells slots Q D A nL (pc + 3) lv st ws) : kJ p l e R s m args below meth c cells slots Q D A nL pc lv (.int y :: .int x :: st) ws :=
  fun H locs ls hG hl => lv_icmp_ge C0.1 C0.2.1 hd ht (fun q => kt q H locs ls hG hl) (fun q => kf q H locs ls hG hl)
theorem kx_obj (C0 : kC p s m args meth c D B nL cc Ts own A) {idx : Nat} (hlink : Cond.methodLink own idx objectInit ∈ Ts) (hinst : Cond.instanceMethod objectInit ∈ Ts) (hcode : Cond.code objectInit ⟨#[0xb1]⟩ 1 none ∈ Ts) (hd : decode cc pc = .ok (.invokespecial idx, 3)) (hframes : 1 ≤ R.frames) (hlocals : (st.map fun v => v.category).sum + 12 ≤ R.locals) {a : Nat} (k : kJ p l e R s m args below meth c cells slots Q D A nL (pc + 3) lv st ws) : kJ p l e R s m args below meth c cells slots Q D A nL pc lv (.ref a :: st) ws := by
  intro H locs ls hG hl
  refine W.objInit C0.1 C0.2.1 C0.2.2.2.1 (C0.2.2.2.2.1 _ hlink) (C0.2.2.2.2.1 _ hinst) (C0.2.2.2.2.1 _ hcode) (g := F0 m pc ls (.ref a :: st)) rfl (by rw [C0.2.2.1]; exact hl.1) rfl hd hframes (by show 2 * 0 + _ + 12 ≤ _; rw [Nat.mul_zero, Nat.zero_add]; exact hlocals) ?_
  exact W.eq (g2 := F0 m (pc + 3) ls st) rfl (k H locs ls hG hl)
theorem kx_newi (C0 : kC p s m args meth c D B nL cc Ts own A) (harr : Cond.arrayClass .int ∈ Ts) {x : Nat × va_E} {n : Int32} {N' : Nat} (hn : ¬ n < 0) (hN : n.toNatClampNeg = N') (hb : N' * 4 ≤ 536870912) (hc : cells + 1 ≤ R.cells) (hs : slots + N' ≤ R.slots) (hd : decode cc pc = .ok (.newarray .int, 2))
    (k : ∀ q : Nat, kJ p l e R s m args below meth c (cells + 1) (slots + N') Q D A nL (pc + 2) lv (.ref q :: st) (x :: (ws ++ [(q, nIa B N' (fun _ => 0))]))) : kJ p l e R s m args below meth c cells slots Q D A nL pc lv (.int n :: st) (x :: ws) := by
  intro H locs ls hG hl
  refine va_newa (atype := .int) (ty := .int) (a0 := (N', .inl (fun _ => 0))) C0.1 C0.2.1 (C0.2.2.2.2.1 _ harr) rfl C0.2.2.2.2.2.1 hG.1 hG.2.1 hG.2.2 C0.2.2.2.2.2.2.2.2 (fun cA => rfl) hn hN hb hc hs hd (fun q cA H1 hK2 hP1 hD1 hS1 => ?_)
  have h1 : s.vm.findClass ("[" ++ FieldType.int.toString) = some cA := (hK2.2 4 (cA, .int) rfl).2
  have h2 : s.vm.findClass ("[" ++ FieldType.int.toString) = some B.2.1 := (C0.2.2.2.2.2.1.2 0 (B.2.1, .int) rfl).2
  have e : cA = B.2.1 := Option.some.inj (h1.symm.trans h2)
  subst e
  exact k q H1 locs ls ⟨hP1, hD1, hS1⟩ hl
theorem kx_newl (C0 : kC p s m args meth c D B nL cc Ts own A) (harr : Cond.arrayClass .long ∈ Ts) {x : Nat × va_E} {n : Int32} {N' : Nat} (hn : ¬ n < 0) (hN : n.toNatClampNeg = N') (hb : N' * 8 ≤ 536870912) (hc : cells + 1 ≤ R.cells) (hs : slots + N' ≤ R.slots) (hd : decode cc pc = .ok (.newarray .long, 2))
    (k : ∀ q : Nat, kJ p l e R s m args below meth c (cells + 1) (slots + N') Q D A nL (pc + 2) lv (.ref q :: st) (x :: (ws ++ [(q, .inl (B.2.2.1, N', .inr (.inl (fun _ => 0))))]))) : kJ p l e R s m args below meth c cells slots Q D A nL pc lv (.int n :: st) (x :: ws) := by
  intro H locs ls hG hl
  refine va_newa (atype := .long) (ty := .long) (a0 := (N', .inr (.inl (fun _ => 0)))) C0.1 C0.2.1 (C0.2.2.2.2.1 _ harr) rfl C0.2.2.2.2.2.1 hG.1 hG.2.1 hG.2.2 C0.2.2.2.2.2.2.2.2 (fun cA => rfl) hn hN hb hc hs hd (fun q cA H1 hK2 hP1 hD1 hS1 => ?_)
  have h1 : s.vm.findClass ("[" ++ FieldType.long.toString) = some cA := (hK2.2 4 (cA, .long) rfl).2
  have h2 : s.vm.findClass ("[" ++ FieldType.long.toString) = some B.2.2.1 := (C0.2.2.2.2.2.1.2 1 (B.2.2.1, .long) rfl).2
  have e : cA = B.2.2.1 := Option.some.inj (h1.symm.trans h2)
  subst e
  exact k q H1 locs ls ⟨hP1, hD1, hS1⟩ hl
/-- a row of shelves, empty -/
theorem kx_newq (C0 : kC p s m args meth c D B nL cc Ts own A) {index : Nat} (hclink : Cond.classLink own index "NotInTheCoin$Shelf" ∈ Ts) {x : Nat × va_E} {n : Int32} {N' : Nat} (hn : ¬ n < 0) (hN : n.toNatClampNeg = N') (hb : N' * 4 ≤ 536870912) (hc : cells + 1 ≤ R.cells) (hs : slots + N' ≤ R.slots) (hd : decode cc pc = .ok (.anewarray index, 3))
    (k : ∀ q : Nat, kJ p l e R s m args below meth c (cells + 1) (slots + N') Q D A nL (pc + 3) lv (.ref q :: st) (x :: (ws ++ [(q, .inl (B.2.2.2.1, N', .inr (.inr (.inr (.inr (fun _ => none))))))]))) : kJ p l e R s m args below meth c cells slots Q D A nL pc lv (.int n :: st) (x :: ws) := by
  intro H locs ls hG hl
  refine va_newq C0.1 C0.2.1 C0.2.2.2.1 (C0.2.2.2.2.1 _ hclink) C0.2.2.2.2.2.2.1.2.1 C0.2.2.2.2.2.1 hG.1 hG.2.1 hG.2.2 C0.2.2.2.2.2.2.2.2 hn hN hb hc hs hd (fun q cA H1 hK2 hP1 hD1 hS1 => ?_)
  obtain ⟨_, _, _, _, _, h1⟩ := (hK2.2 4 (cA, .object "NotInTheCoin$Shelf") rfl).2
  obtain ⟨_, _, _, _, _, h2⟩ := (C0.2.2.2.2.2.1.2 2 (B.2.2.2.1, .object "NotInTheCoin$Shelf") rfl).2
  have e : cA = B.2.2.2.1 := Option.some.inj (h1.symm.trans h2)
  subst e
  exact k q H1 locs ls ⟨hP1, hD1, hS1⟩ hl
/-- eight rows of 256 -/
theorem kx_mna (C0 : kC p s m args meth c D B nL cc Ts own A) {index : Nat} (hclink : Cond.classLink own index "[[I" ∈ Ts) (harr : Cond.arrayClass .int ∈ Ts) {x : Nat × va_E} (hc : cells + (1 + 8) ≤ R.cells) (hs : slots + (8 + 8 * 256) ≤ R.slots) (hd : decode cc pc = .ok (.multianewarray index 2, 4))
    (k : ∀ (q : Nat) (r : Nat → Nat), kJ p l e R s m args below meth c (cells + 1 + 8) (slots + 8 + 8 * 256) Q D A nL (pc + 4) lv (.ref q :: st) (x :: ((ws ++ [(q, .inl (B.2.2.2.2, 8, .inr (.inr (.inr (.inr (fun i => if i < 8 then some (r i) else none))))))]) ++ (List.range 8).map (fun i => (r i, nIa B 256 (fun _ => 0)))))) : kJ p l e R s m args below meth c cells slots Q D A nL pc lv (.int 256 :: .int 8 :: st) (x :: ws) := by
  intro H locs ls hG hl
  have h0 : va_P D vwCl ((x :: ws) ++ va_pl [] (fun _ => nIa B 256 (fun _ => 0))) H := by simpa [va_pl] using hG.1
  have hD0 : va_D A ((x :: ws) ++ va_pl [] (fun _ => nIa B 256 (fun _ => 0))) := by simpa [va_pl] using hG.2.1
  refine va_mna (ty := .int) (cy := B.2.1) (n := 8) (k := 256) (N' := 8) (K' := 256) (z := (256, .inl (fun _ => 0))) C0.1 C0.2.1 C0.2.2.2.1 (by rw [show ("[" ++ (FieldType.array FieldType.int).toString) = "[[I" by decide +kernel]; exact C0.2.2.2.2.1 _ hclink) C0.2.2.2.2.2.2.1.2.2 (C0.2.2.2.2.1 _ harr) (C0.2.2.2.2.2.1.2 0 (B.2.1, .int) rfl).2 C0.2.2.2.2.2.1 h0 hD0 hG.2.2 C0.2.2.2.2.2.2.2.2 (by decide) (by decide) (by decide) (by decide) (Nat.le_of_ble_eq_true rfl) (Nat.le_of_ble_eq_true rfl) (Nat.le_of_ble_eq_true rfl) rfl rfl hc hs (fun c => arrV_new c 256 _) hd (fun q r cA H1 hinj _ hK2 hP1 hD1 hS1 => ?_)
  have h1 : s.vm.findClass ("[" ++ (FieldType.array .int).toString) = some cA := (hK2.2 4 (cA, .array .int) rfl).2
  have h2 : s.vm.findClass ("[" ++ (FieldType.array .int).toString) = some B.2.2.2.2 := (C0.2.2.2.2.2.1.2 3 (B.2.2.2.2, .array .int) rfl).2
  have e : cA = B.2.2.2.2 := Option.some.inj (h1.symm.trans h2)
  subst e
  have e3 : va_pl ([] ++ (List.range 8).map r) (vr_up (fun _ => nIa B 256 (fun _ => 0)) ((List.range 8).map r) (.inl (B.2.1, (256, .inl (fun _ => 0))))) = (List.range 8).map (fun i => (r i, nIa B 256 (fun _ => 0))) := by
    rw [List.nil_append, va_pl, List.map_map]
    apply List.map_congr_left
    intro i hi
    show (r i, vr_up _ _ _ (r i)) = _
    rw [vr_up_in (List.mem_map.mpr ⟨i, hi, rfl⟩)]
    rfl
  rw [e3] at hP1 hD1
  exact k q r H1 locs ls ⟨hP1, hD1, hS1⟩ hl
theorem kx_putF (C0 : kC p s m args meth c D B nL cc Ts own A) (hname : meth.name = "<init>") {T : u_T} {N ci j index a : Nat} {fs fs' : List Value} {v : Value} {ty : FieldType} (ty0 : Nat → FieldType) (hty : ∀ k, k < N → parseFieldDescriptor (T k).2.2.1 = some (ty0 k)) (hnm : ∀ a, a < N → ∀ b, b < N → a ≠ b → (T a).2.1 ≠ (T b).2.1) (hc : vwCl[ci]? = some (own, T, N)) (hin : ∀ w ∈ u_ws own T N, w ∈ Ts) (hj : j < N) (hlink : Cond.fieldLink own index own (T j).2.1 (T j).2.2.1 ∈ Ts) (hfin : (T j).2.2.2 = true) (hdecl : (T j).1 = own) (hdsc : parseFieldDescriptor (T j).2.2.1 = some ty) (hn : narrow ty v = v) (hfit : fits ty v = true) (hl0 : j < fs.length) (hfs : fs.set j v = fs') (hd : decode cc pc = .ok (.putfield index, 3))
    (k : kJ p l e R s m args below meth c cells slots Q D A nL (pc + 3) lv st ((a, .inr (ci, fs')) :: ws)) : kJ p l e R s m args below meth c cells slots Q D A nL pc lv (v :: .ref a :: st) ((a, .inr (ci, fs)) :: ws) := by
  subst hfs
  have hsame : ∀ x, s.fieldFound? (T j).1 (T j).2.1 (T j).2.2.1 = some x → s.fieldFound? own (T j).2.1 (T j).2.2.1 = some x := by rw [hdecl]; exact fun _ h => h
  exact fun H locs ls hG hl => va_putF C0.1 C0.2.1 C0.2.2.2.2.1 hin ty0 hty hnm C0.2.2.2.1 C0.2.2.2.2.2.1 hG.1 hG.2.1 hG.2.2 0 rfl hc j hj (C0.2.2.2.2.1 _ hlink) hsame hfin hname hdecl hdsc hn hfit hl0 hd (fun H1 locs1 hP hD hS => k H1 locs1 ls ⟨hP, hD, hS⟩ hl)
theorem kx_get (C0 : kC p s m args meth c D B nL cc Ts own A) {T : u_T} {N ci j index a : Nat} {fs : List Value} {v : Value} (hc : vwCl[ci]? = some (own, T, N)) (hin : ∀ w ∈ u_ws own T N, w ∈ Ts) (hj : j < N) (hlink : Cond.fieldLink own index own (T j).2.1 (T j).2.2.1 ∈ Ts) (hdecl : (T j).1 = own) (hv : fs[j]? = some v) (hd : decode cc pc = .ok (.getfield index, 3))
    (k : kJ p l e R s m args below meth c cells slots Q D A nL (pc + 3) lv (v :: st) ((a, .inr (ci, fs)) :: ws)) : kJ p l e R s m args below meth c cells slots Q D A nL pc lv (.ref a :: st) ((a, .inr (ci, fs)) :: ws) := by
  have hsame : ∀ x, s.fieldFound? (T j).1 (T j).2.1 (T j).2.2.1 = some x → s.fieldFound? own (T j).2.1 (T j).2.2.1 = some x := by rw [hdecl]; exact fun _ h => h
  exact fun H locs ls hG hl => va_get C0.1 C0.2.1 C0.2.2.2.2.1 hin C0.2.2.2.1 C0.2.2.2.2.2.1 hG.1 0 rfl hc j hj (C0.2.2.2.2.1 _ hlink) hsame hv hd (k H locs ls hG hl)
theorem kx_iast (C0 : kC p s m args meth c D B nL cc Ts own A) {x : Nat × va_E} {W1 W2 : va_W} {n a : Nat} {f : Nat → Int32} {i y : Int32} (hi : nin i n) (hd : decode cc pc = .ok (.iastore, 1)) (k : kJ p l e R s m args below meth c cells slots Q D A nL (pc + 1) lv st (x :: (W1 ++ (a, nIa B n (upd f i.toNatClampNeg y)) :: W2))) : kJ p l e R s m args below meth c cells slots Q D A nL pc lv (.int y :: .int i :: .ref a :: st) (x :: (W1 ++ (a, nIa B n f) :: W2)) :=
  fun H locs ls hG hl => va_iast C0.1 C0.2.1 C0.2.2.2.2.2.1 hG.1 hG.2.1 hG.2.2 (W1.length + 1) 0 (f := f) (n := n) (cA := B.2.1) kl_get rfl (nin_vp hi) hd (fun H1 locs1 hP hD hS => k H1 locs1 ls ⟨by rw [kl_set] at hP; exact hP, by rw [kl_set] at hD; exact hD, hS⟩ hl)
theorem kx_astS (C0 : kC p s m args meth c D B nL cc Ts own A) {x : Nat × va_E} {W1 W2 W3 : va_W} {a v : Nat} {vs : List Value} {f : Nat → Option Nat} {i : Int32} (hi : nin i 8) (hd : decode cc pc = .ok (.aastore, 1)) (k : kJ p l e R s m args below meth c cells slots Q D A nL (pc + 1) lv st (x :: (W1 ++ (a, .inl (B.2.2.2.1, 8, .inr (.inr (.inr (.inr (va_up f i.toNatClampNeg (some v))))))) :: (W2 ++ (v, .inr (1, vs)) :: W3)))) : kJ p l e R s m args below meth c cells slots Q D A nL pc lv (.ref v :: .int i :: .ref a :: st) (x :: (W1 ++ (a, .inl (B.2.2.2.1, 8, .inr (.inr (.inr (.inr f))))) :: (W2 ++ (v, .inr (1, vs)) :: W3))) :=
  fun H locs ls hG hl => va_astq (r := (RX1, TX1, 6)) C0.1 C0.2.1 C0.2.2.2.2.2.1 hG.1 hG.2.1 hG.2.2 (W1.length + 1) 2 (W1.length + 1 + (W2.length + 1)) 1 (f := f) (n := 8) (cA := B.2.2.2.1) kl_get rfl (v := v) (vs := vs) (by rw [show W1.length + 1 + (W2.length + 1) = (W1.length + (W2.length + 1)) + 1 by omega, List.getElem?_cons_succ, List.getElem?_append_right (by omega), show W1.length + (W2.length + 1) - W1.length = W2.length + 1 by omega, List.getElem?_cons_succ, List.getElem?_append_right (Nat.le_refl _), Nat.sub_self]; rfl) rfl (nin_vp hi) hd (fun H1 locs1 hP hD hS => k H1 locs1 ls ⟨by rw [kl_set] at hP; exact hP, by rw [kl_set] at hD; exact hD, hS⟩ hl)
/-- new, dup, and the constructor's call -/
theorem kx_ctor (C0 : kC p s m args meth c D B nL cc Ts own A) {C : String} {T : u_T} {N ci i1 i2 mc ms maxL : Nat} {fs : List Value} {y : MethodName} {bytes : ByteArray} {wsy ws2 : List Cond} {rm : Room} {w : Nat → (Nat → Nat) → va_W} (ty0 : Nat → FieldType) (hty : ∀ k, k < N → parseFieldDescriptor (T k).2.2.1 = some (ty0 k)) (hcl : vwCl[ci]? = some (C, T, N)) (hin : ∀ w ∈ u_ws C T N, w ∈ Ts) (hclink : Cond.classLink own i1 C ∈ Ts) (hinst : Cond.instantiable C N ∈ Ts) (hini : Cond.initialized C ∈ Ts) (hfs : ∀ j, j < N → defaultValue (ty0 j) = vp_V fs j)
    (hM : kM l D B y wsy rm (.inr (ci, fs)) w mc ms) (hG0 : GoodIn Ts wsy) (hw : wsy = Cond.code y bytes maxL none :: ws2) (hrc : rm.cells = mc) (hrs : rm.slots = ms) (hyc : Cond.initialized y.cls ∈ Ts) (hml : Cond.methodLink own i2 y ∈ Ts) (him : Cond.instanceMethod y ∈ Ts) (hyn : y.name = "<init>") (hdy : y.cls ≠ "java/lang/invoke/MethodHandle" ∧ y.cls ≠ "java/lang/invoke/VarHandle" ∧ (parseMethodDescriptor y.desc).map (fun d => d.parameters.length) = some 0) (hR : rm.frames + 1 ≤ R.frames ∧ 8 + (maxL + 11) + rm.locals ≤ R.locals) (hW : ((Value.ref 0 :: st).map fun v => v.category).sum ≤ 8) (hc : cells + 1 ≤ R.cells) (hs : slots + N ≤ R.slots) (hc2 : cells + 1 + mc ≤ R.cells) (hs2 : slots + N + ms ≤ R.slots)
    (d0 : decode cc pc = .ok (.new i1, 3)) (d3 : decode cc (pc + 3) = .ok (.dup, 1)) (d4 : decode cc (pc + 4) = .ok (.invokespecial i2, 3))
    (k : ∀ (q : Nat) (r : Nat → Nat), kJ p l e R s m args below meth c (cells + 1 + mc) (slots + N + ms) Q D A nL (pc + 7) lv (.ref q :: st) (ws ++ w q r)) : kJ p l e R s m args below meth c cells slots Q D A nL pc lv st ws := by
  intro H locs ls hG hl
  refine va_new (ci := ci) (fs := fs) (C := C) (T := T) (N := N) C0.1 C0.2.1 C0.2.2.2.2.1 hin ty0 hty C0.2.2.2.1 (C0.2.2.2.2.1 _ hclink) (C0.2.2.2.2.1 _ hinst) (C0.2.2.2.2.1 _ hini) C0.2.2.2.2.2.1 hG.1 hG.2.1 hG.2.2 C0.2.2.2.2.2.2.2.2 hcl hfs hc hs d0 (fun q H2 hP hD hS => ?_)
  refine lv_dup C0.1 C0.2.1 d3 rfl ?_
  have hlast : (ws ++ [(q, (.inr (ci, fs) : va_E))])[ws.length]? = some (q, .inr (ci, fs)) := by rw [List.getElem?_append_right (Nat.le_refl _), Nat.sub_self]; rfl
  have hFc : ∀ a, va_A [(q, (.inr (ci, fs) : va_E))] H2.size a → A a := va_free (ws := ws ++ [(q, .inr (ci, fs))]) hD hS C0.2.2.2.2.2.2.2.2 [ws.length] (by simp)
  have hPc : va_P D vwCl [(q, .inr (ci, fs))] H2 := fun k9 x hx => by
    have h9 : k9 < 1 := (List.getElem?_eq_some_iff.mp hx).1
    rw [show k9 = 0 by omega] at hx
    cases hx
    exact hP ws.length _ hlast
  exact va_callv (va_runI (As := []) (rest := .ref q :: st) ⟨C0.1, C0.2.1, C0.2.2.1, C0.2.2.2.1, C0.2.2.2.2.1⟩ (hM q H2.size) (cwI 0 C0.2.2.2.2.1 hG0 hw hrc hrs (C0.2.2.2.2.1 _ hyc) (C0.2.2.2.2.1 _ hml) (C0.2.2.2.2.1 _ him) hyn hdy hR) ⟨kblind, fun U hU hW2 => ⟨rfl, by rw [hU], by rw [hU]; exact hPc, va_K.moved hW2.alike C0.2.2.2.2.2.1, kN.warm hW2 C0.2.2.2.2.2.2.1⟩⟩ rfl rfl hl.1 rfl (lv_room hW) d4 ⟨hc2, hs2⟩) hS (fun a _ h => hFc a h) hFc (fun u t H1 locs1 ht hvm _ hB hz1 hk1 hS1 => by
    have hj := kjoin hP hD hk1 hFc (by rw [← ht]; exact hB.1) hB.2
    exact k q u H1 locs1 ls ⟨hj.1, hj.2, hS1⟩ hl)
/-- the same of a private constructor of a nest mate -/
theorem kx_ctorN (C0 : kC p s m args meth c D B nL cc Ts own A) (hown : own = RX5) {C : String} {T : u_T} {N ci i1 i2 mc ms maxL : Nat} {fs : List Value} {y : MethodName} {bytes : ByteArray} {wsy ws2 : List Cond} {rm : Room} {w : Nat → (Nat → Nat) → va_W} (ty0 : Nat → FieldType) (hty : ∀ k, k < N → parseFieldDescriptor (T k).2.2.1 = some (ty0 k)) (hcl : vwCl[ci]? = some (C, T, N)) (hin : ∀ w ∈ u_ws C T N, w ∈ Ts) (hclink : Cond.classLink own i1 C ∈ Ts) (hinst : Cond.instantiable C N ∈ Ts) (hini : Cond.initialized C ∈ Ts) (hfs : ∀ j, j < N → defaultValue (ty0 j) = vp_V fs j)
    (hM : kM l D B y wsy rm (.inr (ci, fs)) w mc ms) (hG0 : GoodIn Ts wsy) (hw : wsy = Cond.code y bytes maxL none :: ws2) (hrc : rm.cells = mc) (hrs : rm.slots = ms) (hyc : Cond.initialized y.cls ∈ Ts) (hnn : (i2, y) ∈ kNest) (him : Cond.instanceMethod y ∈ Ts) (hyn : y.name = "<init>") (hdy : y.cls ≠ "java/lang/invoke/MethodHandle" ∧ y.cls ≠ "java/lang/invoke/VarHandle" ∧ (parseMethodDescriptor y.desc).map (fun d => d.parameters.length) = some 0) (hR : rm.frames + 1 ≤ R.frames ∧ 8 + (maxL + 11) + rm.locals ≤ R.locals) (hW : ((Value.ref 0 :: st).map fun v => v.category).sum ≤ 8) (hc : cells + 1 ≤ R.cells) (hs : slots + N ≤ R.slots) (hc2 : cells + 1 + mc ≤ R.cells) (hs2 : slots + N + ms ≤ R.slots)
    (d0 : decode cc pc = .ok (.new i1, 3)) (d3 : decode cc (pc + 3) = .ok (.dup, 1)) (d4 : decode cc (pc + 4) = .ok (.invokespecial i2, 3))
    (k : ∀ (q : Nat) (r : Nat → Nat), kJ p l e R s m args below meth c (cells + 1 + mc) (slots + N + ms) Q D A nL (pc + 7) lv (.ref q :: st) (ws ++ w q r)) : kJ p l e R s m args below meth c cells slots Q D A nL pc lv st ws := by
  subst hown
  intro H locs ls hG hl
  refine va_new (ci := ci) (fs := fs) (C := C) (T := T) (N := N) C0.1 C0.2.1 C0.2.2.2.2.1 hin ty0 hty C0.2.2.2.1 (C0.2.2.2.2.1 _ hclink) (C0.2.2.2.2.1 _ hinst) (C0.2.2.2.2.1 _ hini) C0.2.2.2.2.2.1 hG.1 hG.2.1 hG.2.2 C0.2.2.2.2.2.2.2.2 hcl hfs hc hs d0 (fun q H2 hP hD hS => ?_)
  refine lv_dup C0.1 C0.2.1 d3 rfl ?_
  have hlast : (ws ++ [(q, (.inr (ci, fs) : va_E))])[ws.length]? = some (q, .inr (ci, fs)) := by rw [List.getElem?_append_right (Nat.le_refl _), Nat.sub_self]; rfl
  have hFc : ∀ a, va_A [(q, (.inr (ci, fs) : va_E))] H2.size a → A a := va_free (ws := ws ++ [(q, .inr (ci, fs))]) hD hS C0.2.2.2.2.2.2.2.2 [ws.length] (by simp)
  have hPc : va_P D vwCl [(q, .inr (ci, fs))] H2 := fun k9 x hx => by
    have h9 : k9 < 1 := (List.getElem?_eq_some_iff.mp hx).1
    rw [show k9 = 0 by omega] at hx
    cases hx
    exact hP ws.length _ hlast
  exact va_callv (va_runIN (host := "NotInTheCoin") (As := []) (rest := .ref q :: st) ⟨C0.1, C0.2.1, C0.2.2.1, C0.2.2.2.1, C0.2.2.2.2.1⟩ (hM q H2.size) ⟨va_cnB 0 C0.2.2.2.2.1 hG0 hw hrc hrs (C0.2.2.2.2.2.2.1.1 _ hnn) (C0.2.2.2.2.1 _ hyc) hdy hR, hyn, C0.2.2.2.2.1 _ him⟩ ⟨kblind, fun U hU hW2 => ⟨rfl, by rw [hU], by rw [hU]; exact hPc, va_K.moved hW2.alike C0.2.2.2.2.2.1, kN.warm hW2 C0.2.2.2.2.2.2.1⟩⟩ rfl rfl hl.1 rfl (lv_room hW) d4 ⟨hc2, hs2⟩) hS (fun a _ h => hFc a h) hFc (fun u t H1 locs1 ht hvm _ hB hz1 hk1 hS1 => by
    have hj := kjoin hP hD hk1 hFc (by rw [← ht]; exact hB.1) hB.2
    exact k q u H1 locs1 ls ⟨hj.1, hj.2, hS1⟩ hl)
theorem kx_vret (C0 : kC p s m args meth c D B nL cc Ts own A) {w : (Nat → Nat) → va_W} (r : Nat → Nat) (h : ws = w r) {mc ms : Nat} (hc : cells ≤ mc) (hs : slots ≤ ms) (hr : meth.sig.returnType = none) (hd : decode cc pc = .ok (.return_, 1)) : kJ p l e R s m args below meth c cells slots (MQ below (va_Qv (fun _ : Nat → Nat => True) (kPo D A w) A) args s mc ms A) D A nL pc lv [] ws := by
  subst h
  exact fun H locs ls hG hl => W.widen hc hs (W.vret C0.1 C0.2.1 hr (fun t ht _ => ⟨⟨r, rfl, trivial, by rw [ht]; exact hG.1, hG.2.1⟩, hG.2.2.F ht⟩) hG.2.2.2.2 hd C0.2.2.2.2.2.2.2.1)
end KX
theorem kmet {l : Launch} {D : va_G} {B : nBT} {y : MethodName} {ws ws2 : List Cond} {rm : Room} {cc : ByteArray} {maxL : Nat} {own : String} {e0 : va_E} {w : Nat → (Nat → Nat) → va_W} (mc ms : Nat) (hy : plainName y.cls = true) (hyc : y.cls = own) (hyn : y.name = "<init>") (hw : ws = Cond.code y cc maxL none :: ws2) (hav : 1 ≤ maxL)
    (body : ∀ (p : Program) (e : Env) (s : State) (m : MethodId) (args : Array Value) (below : List Frame) (meth : Method) (c : Code) (q : Nat), kC p s m args meth c D B maxL cc ws own (va_A [(q, e0)] s.heap.size) → meth.sig.returnType = none → meth.name = "<init>" → kJ p l e rm s m args below meth c 0 0 (MQ below (va_Qv (fun _ : Nat → Nat => True) (kPo D (va_A [(q, e0)] s.heap.size) (w q)) (va_A [(q, e0)] s.heap.size)) args s mc ms (va_A [(q, e0)] s.heap.size)) D (va_A [(q, e0)] s.heap.size) maxL 0 (lv_args 0 [.ref q]) [] [(q, e0)]) :
    kM l D B y ws rm e0 w mc ms := by
  intro q sz
  refine Met.ofW (cc := cc) (maxL := maxL) (ret := none) hy hw ?_
  intro p e s m args below meth c s₁ B0 hml hv
  obtain ⟨rfl, hsz, hP, hK, hN⟩ := hv
  subst hsz
  have hts := atoms_spec (ws := ws) B0.pre
  have hown : s.vm.findClass own = some m.cls := hyc ▸ findClass_of_methodNamed B0.named
  have hname : meth.name = "<init>" := (name_of_methodNamed B0.named B0.method).1.trans hyn
  have hl := lv_entry ([.ref q] : List Value) (n := maxL) hav
  have hD : va_D (va_A [(q, e0)] s.heap.size) [(q, e0)] := ⟨fun i j x y hi hj _ => by
    have h1 : i < 1 := (List.getElem?_eq_some_iff.mp hi).1
    have h2 : j < 1 := (List.getElem?_eq_some_iff.mp hj).1
    omega, fun k x hk => va_A.in hk⟩
  rw [lg_entry_eq]
  exact body p e s m _ below meth c q ⟨B0.exec, B0.bytes, hml, hown, hts, hK, hN, B0.notSynchronized, fun q h => Or.inr h⟩ B0.returns hname s.heap [] _ ⟨hP, hD, va_S.rf⟩ hl
