/-! EXCEPTIONS 1: what a throw stands on, and how one leaves a method over our world -/
def nEz (B : nBT) (sz : Nat) (U : State) (H : Heap) : Prop := vx_Zq Bundle.tN "UNASSIGNED_STACK" Bundle.steD (nA B sz) U H ∧ vx_Zq Bundle.tN "SUPPRESSED_SENTINEL" Bundle.listD (nA B sz) U H
def nDs : List Cond := [.declares (Bundle.initS "java/lang/RuntimeException"), .declares (Bundle.initS "java/lang/Exception"), .declares (Bundle.initS "java/lang/Throwable")]
def nEd (U : State) : Prop := va_Nw (.declares (Bundle.initS "java/lang/RuntimeException")) U ∧ va_Nw (.declares (Bundle.initS "java/lang/Exception")) U ∧ va_Nw (.declares (Bundle.initS "java/lang/Throwable")) U
theorem nEd.warm {s U : State} (hW : s.WarmedH U.vm) (h : nEd s) : nEd U := ⟨va_Nw.warmD hW h.1, va_Nw.warmD hW h.2.1, va_Nw.warmD hW h.2.2⟩
theorem nEd.same {s U : State} (e : U.vm = s.vm) (h : nEd s) : nEd U := ⟨va_Nw.same rfl e.symm h.1, va_Nw.same rfl e.symm h.2.1, va_Nw.same rfl e.symm h.2.2⟩
def nEs (U : State) : Prop := (∃ a, vk_R RX5 332 "a hen's" a U) ∧ (∃ a, vk_R RX5 335 "a cheese's" a U) ∧ (∃ a, vk_R RX5 337 "a thing's" a U) ∧ (∃ a, vk_R RX5 303 "no such shelf" a U) ∧ (∃ a, vk_R RX5 310 "no row" a U) ∧ (∃ a, vk_R RX5 313 "no such place" a U) ∧
  va_Nw (.castable "java/lang/UnsupportedOperationException" "java/lang/UnsupportedOperationException") U ∧ va_Nw (.castable "java/lang/IllegalStateException" "java/lang/IllegalStateException") U ∧ va_Nw (.castable "java/lang/IllegalArgumentException" "java/lang/IllegalArgumentException") U ∧ va_Nc "java/lang/IllegalStateException" "java/lang/UnsupportedOperationException" U ∧ va_Nc "java/lang/IllegalArgumentException" "java/lang/UnsupportedOperationException" U ∧ va_Nc "java/lang/IllegalArgumentException" "java/lang/IllegalStateException" U ∧ va_Nc "java/lang/IllegalStateException" "java/lang/IllegalArgumentException" U ∧ nEd U
theorem nEs.warm {s U : State} (hW : s.WarmedH U.vm) (h : nEs s) : nEs U := by
  obtain ⟨⟨a1, h1⟩, ⟨a2, h2⟩, ⟨a3, h3⟩, ⟨a4, h4⟩, ⟨a5, h5⟩, ⟨a6, h6⟩, h7, h8, h9, h10, h11, h12, h13, h14⟩ := h
  exact ⟨⟨a1, h1.warm hW⟩, ⟨a2, h2.warm hW⟩, ⟨a3, h3.warm hW⟩, ⟨a4, h4.warm hW⟩, ⟨a5, h5.warm hW⟩, ⟨a6, h6.warm hW⟩, va_Nw.warmC hW h7, va_Nw.warmC hW h8, va_Nw.warmC hW h9, h10.moved hW.alike, h11.moved hW.alike, h12.moved hW.alike, h13.moved hW.alike, h14.warm hW⟩
theorem nEs.same {s U : State} (e : U.vm = s.vm) (h : nEs s) : nEs U := by
  obtain ⟨⟨a1, h1⟩, ⟨a2, h2⟩, ⟨a3, h3⟩, ⟨a4, h4⟩, ⟨a5, h5⟩, ⟨a6, h6⟩, h7, h8, h9, h10, h11, h12, h13, h14⟩ := h
  have al : s.vm.Alike U.vm := by rw [e]; exact Vm.Alike.refl s.vm
  exact ⟨⟨a1, h1.same e⟩, ⟨a2, h2.same e⟩, ⟨a3, h3.same e⟩, ⟨a4, h4.same e⟩, ⟨a5, h5.same e⟩, ⟨a6, h6.same e⟩, va_Nw.same rfl e.symm h7, va_Nw.same rfl e.symm h8, va_Nw.same rfl e.symm h9, h10.moved al, h11.moved al, h12.moved al, h13.moved al, h14.same e⟩
theorem nEz.moved {B : nBT} {sz : Nat} {u U : State} {H : Heap} (hvm : u.vm.Alike U.vm) (h : nEz B sz u H) : nEz B sz U H := ⟨h.1.moved hvm, h.2.moved hvm⟩
theorem nEz.kept {B : nBT} {sz : Nat} {U : State} {H H1 : Heap} (h : nEz B sz U H) (hq : ∀ a : Nat, a < H.size → ¬ nA B sz a → H1[a]? = H[a]?) : nEz B sz U H1 := ⟨h.1.kept hq, h.2.kept hq⟩
theorem nEz.narrow {B : nBT} {sz sz' : Nat} {U : State} {H : Heap} (h : nEz B sz U H) (hs : sz ≤ sz') : nEz B sz' U H :=
  ⟨h.1.narrow (fun q z => z.elim Or.inl (fun z => Or.inr (Nat.le_trans hs z))), h.2.narrow (fun q z => z.elim Or.inl (fun z => Or.inr (Nat.le_trans hs z)))⟩
def nPX (D : va_G) (B : nBT) (σ : nS) (sz : Nat) (U : State) : Prop := nPre D B σ sz U ∧ nEz B sz U U.heap ∧ nEs U
theorem nblindX {D : va_G} {B : nBT} {σ : nS} {sz : Nat} {av : List Value} : FrameBlind (va_Pc av (nPX D B σ sz)) := fun a U g mk q => ⟨q.1, (nblind (D := D) (B := B) (σ := σ) (sz := sz) (av := av) a U g mk ⟨q.1, q.2.1⟩).2, nEz.moved (u := U) (U := U.calling g mk a) (Vm.Alike.refl U.vm) q.2.2.1, nEs.same (s := U) (U := U.calling g mk a) rfl q.2.2.2⟩
section NXX
variable {p : Program} {l : Launch} {e : Env} {R : Room} {s : State} {m : MethodId} {args : Array Value} {below : List Frame} {meth : Method} {c : Code}
variable {D : va_G} {B : nBT} {nL : Nat} {cc : ByteArray} {Ts : List Cond} {own : String} {pc : Nat} {lv : List (Nat × Value)} {σ : nS}
variable {Qc : Array Value → State → Outcome → State → Prop} {XC : String → State → State → Prop}
theorem nPo_kept {H : Heap} {t : State} (hP : va_P D vwCl (nw B σ) H) (hq : ∀ q : Nat, q < H.size → t.heap[q]? = H[q]?) : nPo D B σ t :=
  hP.kept (fun k q hk => hq q.1 (vx_lt hP hk))
theorem nx_throw (C0 : nC p R s m args meth c 0 0 D B nL cc Ts own) (hl : l.stackTraces = false) {cls text : String} {names : List String} {ik is ic sa : Nat} (hcls : Bundle.fit cls = true) (hnames : ∀ n ∈ names, Bundle.fit n = true)
    (hk : Cond.classLink own ik cls ∈ Ts) (hini : Cond.initialized cls ∈ Ts) (hstr : vk_R own is text sa s) (hat : ∀ w ∈ (vx_atS own ic cls names).filter goodWord, w ∈ Ts) (hat2 : ∀ w ∈ (vx_atS own ic cls names).filter (fun w => !goodWord w), w ∈ Cond.castable cls cls :: nDs) (hcast : va_Nw (.castable cls cls) s) (hdec : nEd s)
    (hgood : ∀ w ∈ Cond.classLink own ik cls :: Cond.initialized cls :: vx_atS own ic cls names, vx_ot w = true) (hZ : nEz B s.heap.size s s.heap)
    (d0 : decode cc pc = .ok (.new ik, 3)) (d3 : decode cc (pc + 3) = .ok (.dup, 1)) (d4 : decode cc (pc + 4) = .ok (.ldc_w is, 3)) (d7 : decode cc (pc + 7) = .ok (.invokespecial ic, 3)) (d10 : decode cc (pc + 10) = .ok (.athrow, 1))
    (hout : ∀ x ∈ c.exceptionTable.toList, False) (hRf : names.length + 3 < R.frames) (hRl : 13 * (names.length + 1) + 43 ≤ R.locals) (hRc : 1 ≤ R.cells) (hRs : 6 ≤ R.slots)
    (hx : ∀ t : State, nPo D B σ t → va_F (nA B s.heap.size) s t → XC cls s t) :
    nJ p l e R s m args below meth c 0 0 (vx_MQ below Qc XC args s 1 6 (nA B s.heap.size)) D B nL pc lv [] σ := by
  intro H locs ls hG hlv
  refine vx_throwSW (A := nA B s.heap.size) C0.1 C0.2.1 hl C0.2.2.2.1 hcls hnames (C0.2.2.2.2.1 _ hk) (C0.2.2.2.2.1 _ hini) hstr
    (vx_hat (fun w hw => C0.2.2.2.2.1 w (hat w hw)) hat2 (vx_c (va_Nw.use rfl hcast) (vx_c (va_Nw.use rfl hdec.1) (vx_c (va_Nw.use rfl hdec.2.1) (vx_c (va_Nw.use rfl hdec.2.2) vx_n))))) hgood hZ.1 hZ.2 hG.2 (hlv.1.trans C0.2.2.1.symm) d0 d3 d4 d7 d10 (fun x h => (hout x h).elim) hRf (by simpa using hRl) (by simpa using hRc) (by simpa using hRs) C0.2.2.2.2.2.2.1 ?_ hG.2.2.2 (by simp) (by simp)
  intro t _ hz hq
  refine hx t (nPo_kept hG.1 hq) ⟨Nat.le_trans hG.2.1 hz, fun q h1 h2 => ?_⟩
  rw [hq q (Nat.lt_of_lt_of_le h1 hG.2.1)]
  exact hG.2.2.1 q h1 h2
/-- a return of a method that might have thrown -/
theorem nx_vretX (C0 : nC p R s m args meth c 0 0 D B nL cc Ts own) (hr : meth.sig.returnType = none) (hd : decode cc pc = .ok (.return_, 1)) {mc ms : Nat} {post : Unit → Prop} (hpost : post ()) : nJ p l e R s m args below meth c 0 0 (vx_MQ below (va_Qv post (fun _ => nPo D B σ) (nA B s.heap.size)) XC args s mc ms (nA B s.heap.size)) D B nL pc lv [] σ :=
  fun H locs ls hG hl => vx_ret (W.widen (Nat.zero_le mc) (Nat.zero_le ms) (W.vret C0.1 C0.2.1 hr (fun t ht _ => ⟨⟨(), rfl, hpost, by show va_P D vwCl (nw B σ) t.heap; rw [ht]; exact hG.1⟩, hG.2.F ht⟩) hG.2.2.2 hd C0.2.2.2.2.2.2.1))
theorem nx_lretX (C0 : nC p R s m args meth c 0 0 D B nL cc Ts own) {r : Int64} (hr : meth.sig.returnType = some .long) (hd : decode cc pc = .ok (.lreturn, 1)) {mc ms : Nat} {post : Int64 → Unit → Prop} (hpost : post r ()) : nJ p l e R s m args below meth c 0 0 (vx_MQ below (va_Ql post (fun _ => nPo D B σ) (nA B s.heap.size)) XC args s mc ms (nA B s.heap.size)) D B nL pc lv [.long r] σ :=
  fun H locs ls hG hl => vx_ret (W.widen (Nat.zero_le mc) (Nat.zero_le ms) (W.lret C0.1 C0.2.1 hr (fun t ht _ => ⟨⟨r, (), rfl, hpost, by show va_P D vwCl (nw B σ) t.heap; rw [ht]; exact hG.1⟩, hG.2.F ht⟩) hG.2.2.2 hd C0.2.2.2.2.2.2.1))
end NXX
theorem nmetX {l : Launch} {D : va_G} {B : nBT} {y : MethodName} {ws ws2 : List Cond} {rm : Room} {cc : ByteArray} {maxL : Nat} {ret : Option FieldType} {own : String} {av : List Value} {σ : nS} (Qc : Nat → Array Value → State → Outcome → State → Prop) (XC : Nat → String → State → State → Prop) (mc ms : Nat) (hB : nInj B) (hy : plainName y.cls = true) (hyc : y.cls = own) (hw : ws = Cond.code y cc maxL ret :: ws2) (hav : (lg_sl av).length ≤ maxL)
    (body : ∀ (p : Program) (e : Env) (s : State) (m : MethodId) (args : Array Value) (below : List Frame) (meth : Method) (c : Code), nC p rm s m args meth c 0 0 D B maxL cc ws own → meth.sig.returnType = ret → (∀ x ∈ c.exceptionTable.toList, False) → nEz B s.heap.size s s.heap → nEs s → nJ p l e rm s m args below meth c 0 0 (vx_MQ below (Qc s.heap.size) (XC s.heap.size) args s mc ms (nA B s.heap.size)) D B maxL 0 (lv_args 0 av) [] σ) :
    ∀ sz, vx_Met l y ws rm (va_Pc av (nPX D B σ sz)) (Qc sz) (XC sz) mc ms (nA B sz) := by
  intro sz
  refine vx_ofW (cc := cc) (maxL := maxL) (ret := ret) hy hw ?_
  intro p e s m args below meth c s₁ B0 hml hexc hv
  obtain ⟨rfl, ⟨hsz, hP, hK, hN⟩, hZ, hE⟩ := hv
  subst hsz
  have hts := atoms_spec (ws := ws) B0.pre
  have hown : s.vm.findClass own = some m.cls := hyc ▸ findClass_of_methodNamed B0.named
  have hl := lv_entry av hav
  rw [lg_entry_eq]
  exact body p e s m av.toArray below meth c ⟨B0.exec, B0.bytes, hml, hown, hts, hK, B0.notSynchronized, hB, hN, Nat.zero_le _, Nat.zero_le _⟩ B0.returns hexc hZ hE s.heap [] _ ⟨hP, va_S.rf⟩ hl
