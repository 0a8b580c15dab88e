/-! EXCEPTIONS 3: what a caller catches: toss, and the law's element -/
section NXC
variable {p : Program} {l : Launch} {e : Env} {R : Room} {s : State} {m : MethodId} {args : Array Value} {below : List Frame} {meth : Method} {c : Code} {cells slots : Nat} {Q : State → Prop}
variable {D : va_G} {B : nBT} {nL : Nat} {cc : ByteArray} {Ts : List Cond} {own : String} {pc : Nat} {lv : List (Nat × Value)} {st : List Value} {σ : nS}
theorem npreX {H : Heap} {locs : List Loc} (hG : nG D B s σ H locs) (hK : va_K D vwCl (nTy B) s) (hn : nN s) (hZ : nEz B s.heap.size s s.heap) (hE : nEs s) (av : List Value) : ∀ U : State, U.heap = H → s.WarmedH U.vm → va_Pc av (nPX D B σ H.size) av.toArray U :=
  fun U hU hW => ⟨rfl, ⟨by rw [hU], by rw [hU]; exact hG.1, va_K.moved hW.alike hK, nN.warm hW hn⟩, by rw [hU]; exact nEz.moved hW.alike ((hZ.kept hG.2.2.1).narrow hG.2.1), nEs.warm hW hE⟩
theorem nx_cSXv (C0 : nC p R s m args meth c cells slots D B nL cc Ts own) (hZ : nEz B s.heap.size s s.heap) (hE : nEs s) {y : MethodName} {bytes : ByteArray} {maxL index n mc ms : Nat} {ret : Option FieldType} {ws ws2 : List Cond} {rm : Room} {As : List Value} {px : Prop} {BX : String → Prop}
    (hM : ∀ sz, vx_Met l y ws rm (va_Pc As (nPX D B σ sz)) (va_Qv (fun _ : Unit => px) (fun _ => nPo D B σ) (nA B sz)) (vx_X (fun _ : Unit => True) (fun E _ t => BX E ∧ nPo D B σ t) (nA B sz)) mc ms (nA B sz))
    (hG0 : GoodIn Ts (va_wsS own index y ws)) (hw : ws = Cond.code y bytes maxL ret :: ws2) (hrc : rm.cells = mc) (hrs : rm.slots = ms) (hdy : y.cls ≠ "java/lang/invoke/MethodHandle" ∧ y.cls ≠ "java/lang/invoke/VarHandle" ∧ (parseMethodDescriptor y.desc).map (fun d => d.parameters.length) = some n) (hR : rm.frames + 1 ≤ R.frames ∧ 8 + (maxL + 11) + rm.locals ≤ R.locals) (hn : As.length = n) (hW : (st.map fun v => v.category).sum ≤ 8) {st0 : List Value} (hst : st0 = As.reverse ++ st) (hd : decode cc pc = .ok (.invokestatic index, 3)) (hf : cells + mc ≤ R.cells ∧ slots + ms ≤ R.slots)
    (kx : ∀ (E : String) (ce : Cell) (q9 : Addr) (H1 : Heap) (locs1 : List Loc) (ls : Array Slot), nG D B s σ H1 locs1 → lv_has ls nL lv → BX E → H1[q9]? = some ce → ce.vm = .none → s.vm.findClass E = some ce.cls → vx_W p l e R s m args below meth c H1 locs1 (cells + mc) (slots + ms) Q (F0 m pc ls st) q9)
    (kk : px → nJ p l e R s m args below meth c (cells + mc) (slots + ms) Q D B nL (pc + 3) lv st σ) : nJ p l e R s m args below meth c cells slots Q D B nL pc lv st0 σ := by
  subst hst
  intro H locs ls hG hl
  exact vx_callv (vx_runS (As := As) (rest := st) ⟨C0.1, C0.2.1, C0.2.2.1, C0.2.2.2.1, C0.2.2.2.2.1⟩ (hM H.size) (va_cwS n C0.2.2.2.2.1 hG0 hw hrc hrs hdy hR) ⟨nblindX, npreX hG C0.2.2.2.2.2.1 C0.2.2.2.2.2.2.2.2.1 hZ hE _⟩ rfl hn hl.1 rfl (lv_room hW) hd hf) hG.2 (fun q _ z => nA_mono hG.2.1 q z) (fun q z => nA_mono hG.2.1 q z) (fun q _ z => nA_mono hG.2.1 q z) (fun E ce q9 u t H1 locs1 ht _ _ hB _ _ hS1 hc hv hcl => kx E ce q9 H1 locs1 ls ⟨by rw [← ht]; exact hB.2, hS1⟩ hl hB.1 hc hv hcl) (fun u t H1 locs1 ht _ hp hB _ _ hS1 => kk hp H1 locs1 ls ⟨by rw [← ht]; exact hB, hS1⟩ hl)
theorem nx_cVXl (C0 : nC p R s m args meth c cells slots D B nL cc Ts own) (hZ : nEz B s.heap.size s s.heap) (hE : nEs s) {C : String} {k ci : Nat} {fs : List Value} {qc : vw_C} {y : MethodName} {bytes : ByteArray} {maxL index n mc ms : Nat} {ret : Option FieldType} {ws ws2 : List Cond} {rm : Room} {As : List Value} {px : Int64 → Prop} {BX : String → Prop}
    (hM : ∀ sz, vx_Met l y ws rm (va_Pc (.ref (na B k) :: As) (nPX D B σ sz)) (va_Ql (fun (w : Int64) (_ : Unit) => px w) (fun _ => nPo D B σ) (nA B sz)) (vx_X (fun _ : Unit => True) (fun E _ t => BX E ∧ nPo D B σ t) (nA B sz)) mc ms (nA B sz))
    (hG0 : GoodIn Ts (wsV own index C y ws)) (hw : ws = Cond.code y bytes maxL ret :: ws2) (hrc : rm.cells = mc) (hrs : rm.slots = ms) (hdy : y.cls = C ∧ y.cls ≠ "java/lang/invoke/MethodHandle" ∧ y.cls ≠ "java/lang/invoke/VarHandle" ∧ (parseMethodDescriptor y.desc).map (fun d => d.parameters.length) = some n) (hR : rm.frames + 1 ≤ R.frames ∧ 8 + (maxL + 11) + rm.locals ≤ R.locals) (hk : k < 79) (he : nE B k (σ k) = .inr (ci, fs)) (hc : vwCl[ci]? = some qc) (hqc : qc.1 = C) (hn : As.length = n) (hW : (st.map fun v => v.category).sum ≤ 8) {st0 : List Value} (hst : st0 = As.reverse ++ .ref (na B k) :: st) (hd : decode cc pc = .ok (.invokevirtual index, 3)) (hf : cells + mc ≤ R.cells ∧ slots + ms ≤ R.slots)
    (kx : ∀ (E : String) (ce : Cell) (q9 : Addr) (H1 : Heap) (locs1 : List Loc) (ls : Array Slot), nG D B s σ H1 locs1 → lv_has ls nL lv → BX E → H1[q9]? = some ce → ce.vm = .none → s.vm.findClass E = some ce.cls → vx_W p l e R s m args below meth c H1 locs1 (cells + mc) (slots + ms) Q (F0 m pc ls st) q9)
    (kk : ∀ w : Int64, px w → nJ p l e R s m args below meth c (cells + mc) (slots + ms) Q D B nL (pc + 3) lv (.long w :: st) σ) : nJ p l e R s m args below meth c cells slots Q D B nL pc lv st0 σ := by
  subst hst
  intro H locs ls hG hl
  exact vx_calll (vx_runV (As := As) (rest := st) ⟨C0.1, C0.2.1, C0.2.2.1, C0.2.2.2.1, C0.2.2.2.2.1⟩ (hM H.size) (cwV n C0.2.2.2.2.1 hG0 hw hrc hrs hdy hR) ⟨nblindX, by have h9 := nrecv hG.1 C0.2.2.2.2.2.1 hk he hc; rw [hqc] at h9; exact h9, npreX hG C0.2.2.2.2.2.1 C0.2.2.2.2.2.2.2.2.1 hZ hE _⟩ rfl hn hl.1 rfl (lv_room hW) hd hf) hG.2 (fun q _ z => nA_mono hG.2.1 q z) (fun q z => nA_mono hG.2.1 q z) (fun q _ z => nA_mono hG.2.1 q z) (fun E ce q9 u t H1 locs1 ht _ _ hB _ _ hS1 hc hv hcl => kx E ce q9 H1 locs1 ls ⟨by rw [← ht]; exact hB.2, hS1⟩ hl hB.1 hc hv hcl) (fun w u t H1 locs1 ht _ hp hB _ _ hS1 => kk w hp H1 locs1 ls ⟨by rw [← ht]; exact hB, hS1⟩ hl)
/-- a call of a method with a table of its own that doesn't throw -/
theorem nx_cVWi (C0 : nC p R s m args meth c cells slots D B nL cc Ts own) (hZ : nEz B s.heap.size s s.heap) (hE : nEs s) {C : String} {k ci : Nat} {fs : List Value} {qc : vw_C} {y : MethodName} {bytes : ByteArray} {maxL index n mc ms : Nat} {ret : Option FieldType} {hh : List (Nat × Nat × Nat × Nat)} {ws ws2 : List Cond} {rm : Room} {As : List Value} {r : Int32} {σ1 : nS}
    (hM : ∀ sz, Met l y ws rm (va_Pc (.ref (na B k) :: As) (nPX D B σ sz)) (nQi D B r σ1 sz) mc ms (nA B sz))
    (hG0 : GoodIn Ts (wsV own index C y ws)) (hw : ws = Cond.codeWith y bytes maxL ret hh :: ws2) (hrc : rm.cells = mc) (hrs : rm.slots = ms) (hdy : y.cls = C ∧ y.cls ≠ "java/lang/invoke/MethodHandle" ∧ y.cls ≠ "java/lang/invoke/VarHandle" ∧ (parseMethodDescriptor y.desc).map (fun d => d.parameters.length) = some n) (hR : rm.frames + 1 ≤ R.frames ∧ 8 + (maxL + 11) + rm.locals ≤ R.locals) (hk : k < 79) (he : nE B k (σ k) = .inr (ci, fs)) (hc : vwCl[ci]? = some qc) (hqc : qc.1 = C) (hn : As.length = n) (hW : (st.map fun v => v.category).sum ≤ 8) {st0 : List Value} (hst : st0 = As.reverse ++ .ref (na B k) :: st) (hd : decode cc pc = .ok (.invokevirtual index, 3)) (hf : cells + mc ≤ R.cells ∧ slots + ms ≤ R.slots)
    (kk : nJ p l e R s m args below meth c (cells + mc) (slots + ms) Q D B nL (pc + 3) lv (.int r :: st) σ1) : nJ p l e R s m args below meth c cells slots Q D B nL pc lv st0 σ := by
  subst hst
  intro H locs ls hG hl
  exact va_calli (vx_runVW (As := As) (rest := st) ⟨C0.1, C0.2.1, C0.2.2.1, C0.2.2.2.1, C0.2.2.2.2.1⟩ (hM H.size) (vx_cwVW n C0.2.2.2.2.1 hG0 hw hrc hrs hdy hR) ⟨nblindX, by have h9 := nrecv hG.1 C0.2.2.2.2.2.1 hk he hc; rw [hqc] at h9; exact h9, npreX hG C0.2.2.2.2.2.1 C0.2.2.2.2.2.2.2.2.1 hZ hE _⟩ rfl hn hl.1 rfl (lv_room hW) hd hf) hG.2 (fun q _ z => nA_mono hG.2.1 q z) (fun q z => nA_mono hG.2.1 q z) (fun v u t H1 locs1 ht _ hv hB _ _ hS1 => by subst hv; exact kk H1 locs1 ls ⟨by rw [← ht]; exact hB, hS1⟩ hl)
theorem nx_cSWi (C0 : nC p R s m args meth c cells slots D B nL cc Ts own) (hZ : nEz B s.heap.size s s.heap) (hE : nEs s) {y : MethodName} {bytes : ByteArray} {maxL index n mc ms : Nat} {ret : Option FieldType} {hh : List (Nat × Nat × Nat × Nat)} {ws ws2 : List Cond} {rm : Room} {As : List Value} {r : Int32} {σ1 : nS}
    (hM : ∀ sz, Met l y ws rm (va_Pc As (nPX D B σ sz)) (nQi D B r σ1 sz) mc ms (nA B sz))
    (hG0 : GoodIn Ts (va_wsS own index y ws)) (hw : ws = Cond.codeWith y bytes maxL ret hh :: ws2) (hrc : rm.cells = mc) (hrs : rm.slots = ms) (hdy : y.cls ≠ "java/lang/invoke/MethodHandle" ∧ y.cls ≠ "java/lang/invoke/VarHandle" ∧ (parseMethodDescriptor y.desc).map (fun d => d.parameters.length) = some n) (hR : rm.frames + 1 ≤ R.frames ∧ 8 + (maxL + 11) + rm.locals ≤ R.locals) (hn : As.length = n) (hW : (st.map fun v => v.category).sum ≤ 8) {st0 : List Value} (hst : st0 = As.reverse ++ st) (hd : decode cc pc = .ok (.invokestatic index, 3)) (hf : cells + mc ≤ R.cells ∧ slots + ms ≤ R.slots)
    (kk : nJ p l e R s m args below meth c (cells + mc) (slots + ms) Q D B nL (pc + 3) lv (.int r :: st) σ1) : nJ p l e R s m args below meth c cells slots Q D B nL pc lv st0 σ := by
  subst hst
  intro H locs ls hG hl
  exact va_calli (vx_runSW (As := As) (rest := st) ⟨C0.1, C0.2.1, C0.2.2.1, C0.2.2.2.1, C0.2.2.2.2.1⟩ (hM H.size) (vx_cwSW n C0.2.2.2.2.1 hG0 hw hrc hrs hdy hR) ⟨nblindX, npreX hG C0.2.2.2.2.2.1 C0.2.2.2.2.2.2.2.2.1 hZ hE _⟩ rfl hn hl.1 rfl (lv_room hW) hd hf) hG.2 (fun q _ z => nA_mono hG.2.1 q z) (fun q z => nA_mono hG.2.1 q z) (fun v u t H1 locs1 ht _ hv hB _ _ hS1 => by subst hv; exact kk H1 locs1 ls ⟨by rw [← ht]; exact hB, hS1⟩ hl)
theorem nx_catch (C0 : nC p R s m args meth c cells slots D B nL cc Ts own) {H : Heap} {locs : List Loc} {ls : Array Slot} {name E : String} {ce : Cell} {q : Addr} (pre : List ExceptionTableEntry) (x : ExceptionTableEntry) (suf : List ExceptionTableEntry) (hsplit : c.exceptionTable.toList = pre ++ x :: suf)
    (hpass : ∀ z ∈ pre, covers z pc = false ∨ (z.catchType ≠ 0 ∧ ∃ nm : String, (Cond.classLink own z.catchType nm).before args s = true ∧ va_Nc E nm s)) (hx : covers x pc = true) (h0 : x.catchType ≠ 0)
    (hlink : (Cond.classLink own x.catchType name).before args s = true) (hcast : (Cond.castable E name).before args s = true) (hG : nG D B s σ H locs) (hl : lv_has ls nL lv) (hcell : H[q]? = some ce) (hv : ce.vm = .none) (hcl : s.vm.findClass E = some ce.cls)
    (kk : nJ p l e R s m args below meth c cells slots Q D B nL x.handlerPc lv [.ref q] σ) : vx_W p l e R s m args below meth c H locs cells slots Q (F0 m pc ls st) q :=
  vx_catch C0.2.2.2.1 pre x suf hsplit hpass hx h0 hlink hcast hcell hv hcl (kk H locs ls hG hl)
theorem nx_iretW (C0 : nC p R s m args meth c cells slots D B nL cc Ts own) {mc ms : Nat} (hc : cells ≤ mc) (hs : slots ≤ ms) {v r : Int32} {σ1 : nS} (hr : meth.sig.returnType = some .int) (hd : decode cc pc = .ok (.ireturn, 1)) (h : v = r) (h2 : σ = σ1) : nJ p l e R s m args below meth c cells slots (MQ below (nQi D B r σ1 s.heap.size) args s mc ms (nA B s.heap.size)) D B nL pc lv [.int v] σ := by
  subst h
  subst h2
  exact fun H locs ls hG hl => W.widen hc hs (W.iret C0.1 C0.2.1 hr (fun t ht _ => ⟨⟨v, (), rfl, rfl, by show va_P D vwCl (nw B σ) t.heap; rw [ht]; exact hG.1⟩, hG.2.F ht⟩) hG.2.2.2 hd C0.2.2.2.2.2.2.1)
/-- the law's row of one long -/
theorem nx_lald (C0 : nC p R s m args meth c cells slots D B nL cc Ts own) (hd : decode cc pc = .ok (.laload, 1)) (kk : nJ p l e R s m args below meth c cells slots Q D B nL (pc + 1) lv (.long (σ 78 0).toInt64 :: st) σ) : nJ p l e R s m args below meth c cells slots Q D B nL pc lv (.int 0 :: .ref (na B 78) :: st) σ :=
  fun H locs ls hG hl => va_lald (n := 1) (f := fun j => (σ 78 j).toInt64) C0.1 C0.2.1 C0.2.2.2.2.2.1 hG.1 78 1 (by rw [nw_at (by decide)]; rfl) rfl (nin_vp (by decide)) hd (kk H locs ls hG hl)
theorem nx_last (C0 : nC p R s m args meth c cells slots D B nL cc Ts own) {v : Int32} (hd : decode cc pc = .ok (.lastore, 1)) {σ1 : nS} (hs : nU σ 78 (upd (σ 78) 0 v) = σ1) (kk : nJ p l e R s m args below meth c cells slots Q D B nL (pc + 1) lv st σ1) : nJ p l e R s m args below meth c cells slots Q D B nL pc lv (.long v.toInt64 :: .int 0 :: .ref (na B 78) :: st) σ := by
  subst hs
  intro H locs ls hG hl
  refine va_last (n := 1) (f := fun j => (σ 78 j).toInt64) C0.1 C0.2.1 C0.2.2.2.2.2.1 hG.1 (nD C0.2.2.2.2.2.2.2.1 _ σ) hG.2 78 1 (by rw [nw_at (by decide)]; rfl) rfl (nin_vp (by decide)) hd (fun H1 locs1 hP _ hS => kk H1 locs1 ls ⟨?_, hS⟩ hl)
  have e := nw_set (B := B) (σ := σ) (k := 78) (upd (σ 78) 0 v) (by decide)
  have e2 : (fun j => (upd (σ 78) 0 v j).toInt64) = vp_updL (fun j => (σ 78 j).toInt64) (0 : Int32).toNatClampNeg v.toInt64 := by
    funext j
    by_cases hj : j = 0
    · subst hj; rfl
    · simp only [vp_updL, upd]
      rw [if_neg hj, if_neg (by exact hj)]
  have e3 : nE B 78 (upd (σ 78) 0 v) = .inl (B.2.2.1, 1, .inr (.inl (vp_updL (fun j => (σ 78 j).toInt64) (0 : Int32).toNatClampNeg v.toInt64))) := by
    rw [← e2]; rfl
  rw [e3] at e
  rw [← e]
  exact hP
end NXC
theorem nmetW {l : Launch} {D : va_G} {B : nBT} {y : MethodName} {ws ws2 : List Cond} {rm : Room} {cc : ByteArray} {maxL : Nat} {ret : Option FieldType} {hh : List (Nat × Nat × Nat × Nat)} {own : String} {av : List Value} {σ : nS} (Qc : Nat → Array Value → State → Outcome → State → Prop) (mc ms : Nat) (hB : nInj B) (hy : plainName y.cls = true) (hyc : y.cls = own) (hw : ws = Cond.codeWith y cc maxL ret hh :: ws2) (hav : (lg_sl av).length ≤ maxL) (hmc : mc ≤ rm.cells) (hms : ms ≤ rm.slots)
    (body : ∀ (p : Program) (e : Env) (s : State) (m : MethodId) (args : Array Value) (below : List Frame) (meth : Method) (c : Code), nC p rm s m args meth c 0 0 D B maxL cc ws own → nC p rm s m args meth c (0 + mc) (0 + ms) D B maxL cc ws own → meth.sig.returnType = ret → c.exceptionTable.toList = tableOf hh → nEz B s.heap.size s s.heap → nEs s → nJ p l e rm s m args below meth c 0 0 (MQ below (Qc s.heap.size) args s mc ms (nA B s.heap.size)) D B maxL 0 (lv_args 0 av) [] σ) :
    ∀ sz, Met l y ws rm (va_Pc av (nPX D B σ sz)) (Qc sz) mc ms (nA B sz) := by
  intro sz
  refine va_MetW (cc := cc) (maxL := maxL) (ret := ret) hy hw ?_
  intro p e s m args below meth c s₁ B0 hml hv
  obtain ⟨rfl, ⟨hsz, hP, hK, hN⟩, hZ, hE⟩ := hv
  subst hsz
  have hts := atoms_spec (ws := ws) B0.pre
  have hown : s.vm.findClass own = some m.cls := hyc ▸ findClass_of_methodNamed B0.named
  have htab : c.exceptionTable.toList = tableOf hh := vx_table (x := y) B0 (hts _ (by rw [hw]; exact List.mem_cons_self))
  have hl := lv_entry av hav
  rw [lg_entry_eq]
  exact body p e s m av.toArray below meth c ⟨B0.exec, B0.bytes, hml, hown, hts, hK, B0.notSynchronized, hB, hN, Nat.zero_le _, Nat.zero_le _⟩ ⟨B0.exec, B0.bytes, hml, hown, hts, hK, B0.notSynchronized, hB, hN, by rw [Nat.zero_add]; exact hmc, by rw [Nat.zero_add]; exact hms⟩ B0.returns htab hZ hE s.heap [] _ ⟨hP, va_S.rf⟩ hl
/-- what toss answers, by what fail throws -/
def fXt (k f : Int32) (σ : nS) : Option Int32 := match fF k f with
  | none => some (-15)
  | some E => if E = "java/lang/UnsupportedOperationException" then (fX5_costOf k f σ).bind fun r => some (200 + r) else if E = "java/lang/IllegalStateException" then some (100 + f) else some f
def fX5_toss (x1 : Int32) (σ : nS) : Option Int32 := (fX5_isShelf x1 σ).bind fun r2 => if r2 = 0 then some (-1 : Int32) else if nin x1 8 then (fX1_refusal (29 + 2 * (x1).toNatClampNeg) (1 : Int32) σ).bind fun r5 => if r5 = 0 then if nin x1 8 then if nin x1 8 then fXt (σ (29 + 2 * (x1).toNatClampNeg) 1) (σ (29 + 2 * (x1).toNatClampNeg) 2) σ else none else none else some r5 else none
theorem fF_c {k f : Int32} {E : String} (h : fF k f = some E) : E = "java/lang/UnsupportedOperationException" ∨ E = "java/lang/IllegalStateException" ∨ E = "java/lang/IllegalArgumentException" := by
  unfold fF at h
  split at h
  · cases h
  · split at h
    · cases h
    · split at h
      · cases h
      · split at h
        · cases h; exact Or.inl rfl
        · split at h
          · cases h; exact Or.inr (Or.inl rfl)
          · split at h
            · cases h; exact Or.inr (Or.inl rfl)
            · cases h; exact Or.inr (Or.inr rfl)
theorem neSU : ¬ ("java/lang/IllegalStateException" : String) = "java/lang/UnsupportedOperationException" := by decide
theorem neAU : ¬ ("java/lang/IllegalArgumentException" : String) = "java/lang/UnsupportedOperationException" := by decide
theorem neAS : ¬ ("java/lang/IllegalArgumentException" : String) = "java/lang/IllegalStateException" := by decide
def rmX5_toss : Room := { frames := 8, cells := 1, slots := 6, locals := 140 }
theorem mX5_toss (l : Launch) (hl : l.stackTraces = false) (D : va_G) (B : nBT) (hB : nInj B) (x1 : Int32) (σ : nS) {r : Int32} (h : fX5_toss x1 σ = some r) :
    ∀ sz, Met l yX5_toss wsX5_toss rmX5_toss (va_Pc [.ref (na B 0), .int x1] (nPX D B σ sz)) (nQi D B r σ sz) 1 6 (nA B sz) := by
  refine nmetW (cc := cX5_toss) (maxL := 6) (ret := some .int) (hh := [(47, 53, 56, 330), (47, 53, 69, 308), (47, 53, 77, 301)]) (own := RX5) (av := [.ref (na B 0), .int x1]) (fun sz => nQi D B r σ sz) 1 6 hB (by decide) rfl rfl (Nat.le_of_ble_eq_true rfl) (Nat.le_refl 1) (Nat.le_refl 6) (fun p e s m args below meth c C0 C1 hr htab hZ hE => ?_)
  have hh0 : ∀ w ∈ wsX50, w ∈ wsX5_toss := fun _ h => List.mem_cons_of_mem _ (List.mem_append_left _ (List.mem_append_left _ (List.mem_append_left _ (List.mem_append_left _ (List.mem_append_right _ h)))))
  have hh2 : ∀ w ∈ wsX10, w ∈ wsX5_toss := fun _ h => List.mem_cons_of_mem _ (List.mem_append_left _ (List.mem_append_left _ (List.mem_append_left _ (List.mem_append_right _ h))))
  have hh1 := C0.2.2.2.2.1 (Cond.fieldLink RX5 24 "NotInTheCoin" "shelves" "[LNotInTheCoin$Shelf;") (by decide +kernel)
  have hh3 := C0.2.2.2.2.1 (Cond.fieldLink RX5 133 "NotInTheCoin$Shelf" "kind" "I") (by decide +kernel)
  have hh4 := C0.2.2.2.2.1 (Cond.fieldLink RX5 136 "NotInTheCoin$Shelf" "figure" "I") (by decide +kernel)
  have hk1 := C0.2.2.2.2.1 (Cond.classLink RX5 330 "java/lang/UnsupportedOperationException") (by decide +kernel)
  have hk2 := C0.2.2.2.2.1 (Cond.classLink RX5 308 "java/lang/IllegalStateException") (by decide +kernel)
  have hk3 := C0.2.2.2.2.1 (Cond.classLink RX5 301 "java/lang/IllegalArgumentException") (by decide +kernel)
  refine nx_lv (lv' := [(0, .ref (na B 0)), (1, .int x1)]) [0, 1] rfl ?_
  rw [fX5_toss] at h
  refine nx_iload_n C0 1 dX5_toss_0 rfl ?_
  obtain ⟨r2, c1, h⟩ := nbind h
  refine nx_cSi (n := 1) (As := [.int x1]) (st := []) C0 (mX5_isShelf l D B hB x1 σ c1) gX5_toss_X5_isShelf rfl rfl rfl ndX5_isShelf ⟨Nat.le_of_ble_eq_true rfl, Nat.le_of_ble_eq_true rfl⟩ rfl (Nat.le_of_ble_eq_true rfl) rfl dX5_toss_1 ?_
  refine nx_if_ne (tgt := 9) C0 dX5_toss_4 (by decide) (fun q => ?_) (fun q => ?_)
  · have h := niff q h
    refine nx_aload_n C0 0 dX5_toss_9 rfl ?_
    refine nx_gX5_shelves C0 hh0 hh1 dX5_toss_10 ?_
    refine nx_iload_n C0 1 dX5_toss_13 rfl ?_
    obtain ⟨g3, h⟩ := nguard h
    refine nx_aldS C0 g3 dX5_toss_14 ?_
    refine nx_iconst (v := 1) C0 dX5_toss_15 (by decide) ?_
    obtain ⟨r5, c4, h⟩ := nbind h
    refine nx_cVi (ci := 1) (n := 1) (As := [.int (1 : Int32)]) (st := []) C0 (mX1_refusal l D B hB (nSh_of g3) (1 : Int32) σ c4) gX5_toss_X1_refusal rfl rfl rfl ndX1_refusal ⟨Nat.le_of_ble_eq_true rfl, Nat.le_of_ble_eq_true rfl⟩ (by have := nSh_lt (nSh_of g3); omega) (nSh_e (nSh_of g3) _) rfl rfl rfl (Nat.le_of_ble_eq_true rfl) rfl dX5_toss_16 ?_
    refine nx_istore_n (lv' := [(2, .int r5), (0, .ref (na B 0)), (1, .int x1)]) C0 dX5_toss_19 rfl (by decide) rfl rfl ?_
    refine nx_iload_n C0 0 dX5_toss_20 rfl ?_
    refine nx_if_eq (tgt := 26) C0 dX5_toss_21 (by decide) (fun q => ?_) (fun q => ?_)
    · have h := nift q h
      refine nx_aload_n C0 1 dX5_toss_26 rfl ?_
      refine nx_gX5_shelves C0 hh0 hh1 dX5_toss_27 ?_
      refine nx_iload_n C0 2 dX5_toss_30 rfl ?_
      obtain ⟨g6, h⟩ := nguard h
      refine nx_aldS C0 g6 dX5_toss_31 ?_
      refine nx_gX1_kind C0 (nSh_of g6) hh2 hh3 dX5_toss_32 ?_
      refine nx_istore_n (lv' := [(3, .int (σ (29 + 2 * (x1).toNatClampNeg) 1)), (2, .int r5), (0, .ref (na B 0)), (1, .int x1)]) C0 dX5_toss_35 rfl (by decide) rfl rfl ?_
      refine nx_aload_n C0 2 dX5_toss_36 rfl ?_
      refine nx_gX5_shelves C0 hh0 hh1 dX5_toss_37 ?_
      refine nx_iload_n C0 3 dX5_toss_40 rfl ?_
      obtain ⟨g7, h⟩ := nguard h
      refine nx_aldS C0 g7 dX5_toss_41 ?_
      refine nx_gX1_figure C0 (nSh_of g7) hh2 hh4 dX5_toss_42 ?_
      refine nx_istore (lv' := [(4, .int (σ (29 + 2 * (x1).toNatClampNeg) 2)), (3, .int (σ (29 + 2 * (x1).toNatClampNeg) 1)), (2, .int r5), (0, .ref (na B 0)), (1, .int x1)]) C0 dX5_toss_45 (by decide) rfl rfl ?_
      generalize σ (29 + 2 * (x1).toNatClampNeg) 1 = kd at h ⊢
      generalize σ (29 + 2 * (x1).toNatClampNeg) 2 = fg at h ⊢
      refine nx_iload_n C0 1 dX5_toss_47 rfl ?_
      refine nx_iload C0 0 dX5_toss_48 rfl ?_
      refine nx_cSXv (n := 2) (As := [.int kd, .int fg]) (st := []) C0 hZ hE (BX := fun E => fF kd fg = some E) (mX5_fail l hl D B hB kd fg σ) gX5_toss_X5_fail rfl rfl rfl (by decide) ⟨Nat.le_of_ble_eq_true rfl, Nat.le_of_ble_eq_true rfl⟩ rfl (Nat.le_of_ble_eq_true rfl) rfl dX5_toss_50 ⟨Nat.le_of_ble_eq_true rfl, Nat.le_of_ble_eq_true rfl⟩ (fun E ce q9 H1 locs1 ls hG hlv hf hce hcv hcl => ?_) (fun hf => ?_)
      · have htab2 : c.exceptionTable.toList = [⟨47, 53, 56, 330⟩, ⟨47, 53, 69, 308⟩, ⟨47, 53, 77, 301⟩] := htab
        obtain ⟨-, -, -, -, -, -, w1, w2, w3, n1, n2, n3, -⟩ := hE
        rw [fXt, hf] at h
        dsimp only at h
        rcases fF_c hf with rfl | rfl | rfl
        · rw [if_pos rfl] at h
          obtain ⟨r9, c9, h⟩ := nbind h
          refine nx_catch C1 (name := "java/lang/UnsupportedOperationException") [] ⟨47, 53, 56, 330⟩ [⟨47, 53, 69, 308⟩, ⟨47, 53, 77, 301⟩] htab2 (fun z hz => by cases hz) (by decide) (by decide) hk1 (va_Nw.use rfl w1) hG hlv hce hcv hcl ?_
          refine nx_astore (lv' := [(5, .ref q9), (4, .int fg), (3, .int kd), (2, .int r5), (0, .ref (na B 0)), (1, .int x1)]) C1 dX5_toss_56 (by decide) rfl rfl ?_
          refine nx_sipush (v := 200) C1 dX5_toss_58 (by decide) ?_
          refine nx_iload_n C1 2 dX5_toss_61 rfl ?_
          refine nx_iload C1 1 dX5_toss_62 rfl ?_
          refine nx_cSi (n := 2) (As := [.int kd, .int fg]) (st := [.int 200]) C1 (mX5_costOf l D B hB kd fg σ c9) gX5_toss_X5_costOf rfl rfl rfl ndX5_costOf ⟨Nat.le_of_ble_eq_true rfl, Nat.le_of_ble_eq_true rfl⟩ rfl (Nat.le_of_ble_eq_true rfl) rfl dX5_toss_64 ?_
          refine nx_iadd C1 dX5_toss_67 ?_
          exact nx_iretW C1 (Nat.le_refl _) (Nat.le_refl _) hr dX5_toss_68 (Option.some.inj h) rfl
        · rw [if_neg neSU, if_pos rfl] at h
          refine nx_catch C1 (name := "java/lang/IllegalStateException") [⟨47, 53, 56, 330⟩] ⟨47, 53, 69, 308⟩ [⟨47, 53, 77, 301⟩] htab2 (fun z hz => by rw [List.mem_singleton.mp hz]; exact Or.inr ⟨by decide, _, hk1, n1⟩) (by decide) (by decide) hk2 (va_Nw.use rfl w2) hG hlv hce hcv hcl ?_
          refine nx_astore (lv' := [(5, .ref q9), (4, .int fg), (3, .int kd), (2, .int r5), (0, .ref (na B 0)), (1, .int x1)]) C1 dX5_toss_69 (by decide) rfl rfl ?_
          refine nx_bipush (v := 100) C1 dX5_toss_71 (by decide) ?_
          refine nx_iload C1 1 dX5_toss_73 rfl ?_
          refine nx_iadd C1 dX5_toss_75 ?_
          exact nx_iretW C1 (Nat.le_refl _) (Nat.le_refl _) hr dX5_toss_76 (Option.some.inj h) rfl
        · rw [if_neg neAU, if_neg neAS] at h
          refine nx_catch C1 (name := "java/lang/IllegalArgumentException") [⟨47, 53, 56, 330⟩, ⟨47, 53, 69, 308⟩] ⟨47, 53, 77, 301⟩ [] htab2 (fun z hz => by
            rcases List.mem_cons.mp hz with rfl | hz
            · exact Or.inr ⟨by decide, _, hk1, n2⟩
            · rw [List.mem_singleton.mp hz]; exact Or.inr ⟨by decide, _, hk2, n3⟩) (by decide) (by decide) hk3 (va_Nw.use rfl w3) hG hlv hce hcv hcl ?_
          refine nx_astore (lv' := [(5, .ref q9), (4, .int fg), (3, .int kd), (2, .int r5), (0, .ref (na B 0)), (1, .int x1)]) C1 dX5_toss_77 (by decide) rfl rfl ?_
          refine nx_iload C1 1 dX5_toss_79 rfl ?_
          exact nx_iretW C1 (Nat.le_refl _) (Nat.le_refl _) hr dX5_toss_81 (Option.some.inj h) rfl
      · rw [fXt, hf] at h
        refine nx_goto (tgt := 82) C1 dX5_toss_53 (by decide) ?_
        refine nx_bipush (v := -15) C1 dX5_toss_82 (by decide) ?_
        exact nx_iretW C1 (Nat.le_refl _) (Nat.le_refl _) hr dX5_toss_84 (Option.some.inj h) rfl
    · have h := niff q h
      refine nx_iload_n C0 0 dX5_toss_24 rfl ?_
      exact nx_iretW C0 (Nat.zero_le _) (Nat.zero_le _) hr dX5_toss_25 (Option.some.inj h) rfl
  · have h := nift q h
    refine nx_iconst (v := -1) C0 dX5_toss_7 (by decide) ?_
    exact nx_iretW C0 (Nat.zero_le _) (Nat.zero_le _) hr dX5_toss_8 (Option.some.inj h) rfl
