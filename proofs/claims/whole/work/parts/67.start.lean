/-! THE LAW: its loop, its start -/
def R_law : String := "NotInTheCoinLaw"
def lw_P (b : Addr) (xs : List Int32) (args : Array Value) (s : State) : Prop := args = #[.ref b] ∧ s.IntsAt b xs ∧ xs.length ≤ 3072 ∧ (Jvm.Cond.and given_1 narrow_1).before args s = true
def lw_Q (_ : Array Value) (s : State) (o : Outcome) (t : State) : Prop := o = .returned (some (.int 1)) ∧ Framed s o t [] 601024 7293034
def lw_Z (below : List Frame) (a : Array Value) (s : State) : State → Prop := fun t => ∃ o, t.status = .running ∧ Ended t below o ∧ lw_Q a s o t
/-- the law's own end, with 1 on the stack, nothing written that was there before, its room as the claim has it -/
theorem lw_ret {p : Program} {l : Launch} {e : Env} {s : State} {m : MethodId} {below : List Frame} {meth : Method} {c : Code} {b : Nat} (hx : p.tables.exec = Jvm.exec) (hb : c.code = code) (hr : meth.sig.returnType = ret) (hlocks : meth.locks = false) {pc : Nat} {H : Heap} {ls : Array Slot} (hdg : decode code pc = .ok (.ireturn, 1)) : W p l e room_1 s m #[Value.ref b] below meth c H [] 601024 7293034 (lw_Z below #[Value.ref b] s) (F0 m pc ls [.int 1]) := by
  intro T hT X
  obtain ⟨fs, hret, hrun, hended, hW, hframe⟩ := X.leave (v := some (.int 1)) (hlocks := hlocks) (fun h => by rw [hr] at h; cases h)
  have hmeth' : T.vm.method? m = some meth := X.method'
  refine ⟨T.setFrames fs, ?_, .returned (some (.int 1)), hrun, hended, rfl, ⟨_, rfl⟩, hW, hframe⟩
  jvm_step X.here [X.here.top, hx, hb, hdg, hmeth', hr, ret, narrow_b1]
  (try refine ⟨rfl, ?_⟩); (try refine ⟨rfl, ?_⟩)
  first | (intro acts; rw [hret _ acts rfl rfl rfl]) | rw [hret _ _ rfl rfl rfl]
  exact Steps.refl _
/-- what holds at the law's entry: the machine, the code, the tables' words (any of lw_tbl by 'hts w (by decide +kernel)'), the script of L ints xs at the cell b, what the Statement gives of the start (any of its parts by flat_of_before) -/
def lw_At (p : Program) (s : State) (m : MethodId) (meth : Method) (c : Code) (b L : Nat) (xs : Nat → Int32) : Prop :=
  p.tables.exec = Jvm.exec ∧ c.code = code ∧ meth.sig.returnType = ret ∧ c.maxLocals = 8 ∧ s.vm.findClass R_law = some m.cls ∧ (∀ w ∈ lw_tbl, w.before #[Value.ref b] s = true) ∧ va_X b L xs s s.heap ∧ b < s.heap.size ∧ meth.locks = false ∧ (Jvm.Cond.and given_1 narrow_1).before #[Value.ref b] s = true
section LL
variable {p : Program} {l : Launch} {e : Env} {s : State} {m : MethodId} {below : List Frame} {meth : Method} {c : Code} {b : Nat} {Q : State → Prop} {D : va_G} {B : nBT} {L : Nat} {xs : Nat → Int32}
theorem lC_up {cells slots c2 s2 : Nat} (C : lC p s m b meth c cells slots D B L xs) (h1 : c2 ≤ 601024) (h2 : s2 ≤ 7293034) : lC p s m b meth c c2 s2 D B L xs := by
  obtain ⟨⟨a1, a2, a3, a4, a5, a6, a7, a8, a9, -, -⟩, r⟩ := C
  exact ⟨⟨a1, a2, a3, a4, a5, a6, a7, a8, a9, h1, h2⟩, r⟩
theorem lw_case {cells slots i : Nat} {σ : nS} (C : lC p s m b meth c cells slots D B L xs) (C1 : lC p s m b meth c (cells + 1) (slots + 6) D B L xs) (hl : l.stackTraces = false) (hZ : nEz B s.heap.size s s.heap) (hE : nEs s) (hi : i + 5 < L) (I : Inv σ) (K : ∀ τ, Inv τ → lJ p l e s m b below meth c (cells + 1) (slots + 6) Q D B 1844 (lvL B b i) [] τ) : lJ p l e s m b below meth c cells slots Q D B 33 (lvL B b i) [] σ := by
  have hL := C.2.2.2.2
  have K0 : ∀ τ, Inv τ → lJ p l e s m b below meth c cells slots Q D B 1844 (lvL B b i) [] τ := fun τ h => nx_widen (Nat.le_add_right _ 1) (Nat.le_add_right _ 6) (K τ h)
  refine nx_aload_n C.1 1 dL_law_33 rfl ?_
  refine nx_iload C.1 0 dL_law_34 rfl ?_
  have kk : lJ p l e s m b below meth c cells slots Q D B 37 (lvL B b i) [.int (xs i)] σ := by
    refine nx_bipush (v := 63) C.1 dL_law_37 (by decide) ?_
    refine nx_iand C.1 dL_law_39 ?_
    generalize xs i &&& 63 = z
    by_cases h : z.toInt < 0 ∨ 43 < z.toInt
    · exact nx_tabOut (tgt := 1844) C.1 dL_law_40 h (by decide) (K0 σ I)
    · obtain ⟨n, hn, hz⟩ : ∃ n : Nat, n < 44 ∧ z.toInt = (n : Int) := ⟨z.toInt.toNat, by omega, by omega⟩
      match n, hn, hz with
      | 0, _, hz => exact nx_tabIn (tgt := 232) C.1 0 dL_law_40 hz (by decide) (by decide) rfl (by decide) (lw_c0 C hi I K0)
      | 1, _, hz => exact nx_tabIn (tgt := 257) C.1 1 dL_law_40 hz (by decide) (by decide) rfl (by decide) (lw_c1 C hi I K0)
      | 2, _, hz => exact nx_tabIn (tgt := 294) C.1 2 dL_law_40 hz (by decide) (by decide) rfl (by decide) (lw_c2 C hi I K0)
      | 3, _, hz => exact nx_tabIn (tgt := 331) C.1 3 dL_law_40 hz (by decide) (by decide) rfl (by decide) (lw_c3 C hi I K0)
      | 4, _, hz => exact nx_tabIn (tgt := 368) C.1 4 dL_law_40 hz (by decide) (by decide) rfl (by decide) (lw_c4 C hi I K0)
      | 5, _, hz => exact nx_tabIn (tgt := 393) C.1 5 dL_law_40 hz (by decide) (by decide) rfl (by decide) (lw_c5 C hi I K0)
      | 6, _, hz => exact nx_tabIn (tgt := 430) C.1 6 dL_law_40 hz (by decide) (by decide) rfl (by decide) (lw_c6 C hi I K0)
      | 7, _, hz => exact nx_tabIn (tgt := 467) C.1 7 dL_law_40 hz (by decide) (by decide) rfl (by decide) (lw_c7 C hi I K0)
      | 8, _, hz => exact nx_tabIn (tgt := 504) C.1 8 dL_law_40 hz (by decide) (by decide) rfl (by decide) (lw_c8 C hi I K0)
      | 9, _, hz => exact nx_tabIn (tgt := 541) C.1 9 dL_law_40 hz (by decide) (by decide) rfl (by decide) (lw_c9 C hi I K0)
      | 10, _, hz => exact nx_tabIn (tgt := 566) C.1 10 dL_law_40 hz (by decide) (by decide) rfl (by decide) (lw_c10 C hi I K0)
      | 11, _, hz => exact nx_tabIn (tgt := 603) C.1 11 dL_law_40 hz (by decide) (by decide) rfl (by decide) (lw_c11 C hi I K0)
      | 12, _, hz => exact nx_tabIn (tgt := 652) C.1 12 dL_law_40 hz (by decide) (by decide) rfl (by decide) (lw_c12 C hi I K0)
      | 13, _, hz => exact nx_tabIn (tgt := 689) C.1 13 dL_law_40 hz (by decide) (by decide) rfl (by decide) (lw_c13 C hi I K0)
      | 14, _, hz => exact nx_tabIn (tgt := 714) C.1 14 dL_law_40 hz (by decide) (by decide) rfl (by decide) (lw_c14 C hi I K0)
      | 15, _, hz => exact nx_tabIn (tgt := 739) C.1 15 dL_law_40 hz (by decide) (by decide) rfl (by decide) (lw_c15 C hi I K0)
      | 16, _, hz => exact nx_tabIn (tgt := 776) C.1 16 dL_law_40 hz (by decide) (by decide) rfl (by decide) (lw_c16 C hi I K0)
      | 17, _, hz => exact nx_tabIn (tgt := 801) C.1 17 dL_law_40 hz (by decide) (by decide) rfl (by decide) (lw_c17 C hi I K0)
      | 18, _, hz => exact nx_tabIn (tgt := 814) C.1 18 dL_law_40 hz (by decide) (by decide) rfl (by decide) (lw_c18 C hi I K0)
      | 19, _, hz => exact nx_tabIn (tgt := 827) C.1 19 dL_law_40 hz (by decide) (by decide) rfl (by decide) (lw_c19 C hi I K0)
      | 20, _, hz => exact nx_tabIn (tgt := 852) C.1 20 dL_law_40 hz (by decide) (by decide) rfl (by decide) (lw_c20 C hi I K0)
      | 21, _, hz => exact nx_tabIn (tgt := 913) C.1 21 dL_law_40 hz (by decide) (by decide) rfl (by decide) (lw_c21 C hi I K0)
      | 22, _, hz => exact nx_tabIn (tgt := 950) C.1 22 dL_law_40 hz (by decide) (by decide) rfl (by decide) (lw_c22 C hi I K0)
      | 23, _, hz => exact nx_tabIn (tgt := 975) C.1 23 dL_law_40 hz (by decide) (by decide) rfl (by decide) (lw_c23 C hi I K0)
      | 24, _, hz => exact nx_tabIn (tgt := 1012) C.1 24 dL_law_40 hz (by decide) (by decide) rfl (by decide) (lw_c24 C hi I K0)
      | 25, _, hz => exact nx_tabIn (tgt := 1049) C.1 25 dL_law_40 hz (by decide) (by decide) rfl (by decide) (lw_c25 C hi I K0)
      | 26, _, hz => exact nx_tabIn (tgt := 1098) C.1 26 dL_law_40 hz (by decide) (by decide) rfl (by decide) (lw_c26 C hi I K0)
      | 27, _, hz => exact nx_tabIn (tgt := 1159) C.1 27 dL_law_40 hz (by decide) (by decide) rfl (by decide) (lw_c27 C hi I K0)
      | 28, _, hz => exact nx_tabIn (tgt := 1196) C.1 28 dL_law_40 hz (by decide) (by decide) rfl (by decide) (lw_c28 C hi I K0)
      | 29, _, hz => exact nx_tabIn (tgt := 1233) C.1 29 dL_law_40 hz (by decide) (by decide) rfl (by decide) (lw_c29 C hi I K0)
      | 30, _, hz => exact nx_tabIn (tgt := 1295) C.1 30 dL_law_40 hz (by decide) (by decide) rfl (by decide) (lw_c30 C hi I K0)
      | 31, _, hz => exact nx_tabIn (tgt := 1333) C.1 31 dL_law_40 hz (by decide) (by decide) rfl (by decide) (lw_c31 C hi I K0)
      | 32, _, hz => exact nx_tabIn (tgt := 1370) C.1 32 dL_law_40 hz (by decide) (by decide) rfl (by decide) (lw_c32 C hi I K0)
      | 33, _, hz => exact nx_tabIn (tgt := 1395) C.1 33 dL_law_40 hz (by decide) (by decide) rfl (by decide) (lw_c33 C hi I K0)
      | 34, _, hz => exact nx_tabIn (tgt := 1444) C.1 34 dL_law_40 hz (by decide) (by decide) rfl (by decide) (lw_c34 C hi I K0)
      | 35, _, hz => exact nx_tabIn (tgt := 1457) C.1 35 dL_law_40 hz (by decide) (by decide) rfl (by decide) (lw_c35 C hi I K0)
      | 36, _, hz => exact nx_tabIn (tgt := 1470) C.1 36 dL_law_40 hz (by decide) (by decide) rfl (by decide) (lw_c36 C hi I K0)
      | 37, _, hz => exact nx_tabIn (tgt := 1495) C.1 37 dL_law_40 hz (by decide) (by decide) rfl (by decide) (lw_c37 C hi I K0)
      | 38, _, hz => exact nx_tabIn (tgt := 1556) C.1 38 dL_law_40 hz (by decide) (by decide) rfl (by decide) (lw_c38 C hi I K0)
      | 39, _, hz => exact nx_tabIn (tgt := 1605) C.1 39 dL_law_40 hz (by decide) (by decide) rfl (by decide) (lw_c39 C hi I K0)
      | 40, _, hz => exact nx_tabIn (tgt := 1654) C.1 40 dL_law_40 hz (by decide) (by decide) rfl (by decide) (lw_c40 C C1 hl hZ hE hi I K)
      | 41, _, hz => exact nx_tabIn (tgt := 1721) C.1 41 dL_law_40 hz (by decide) (by decide) rfl (by decide) (lw_c41 C hi I K0)
      | 42, _, hz => exact nx_tabIn (tgt := 1794) C.1 42 dL_law_40 hz (by decide) (by decide) rfl (by decide) (lw_c42 C hi I K0)
      | 43, _, hz => exact nx_tabIn (tgt := 1819) C.1 43 dL_law_40 hz (by decide) (by decide) rfl (by decide) (lw_c43 C C1 hl hZ hE hi I K)
      | n + 44, hn, _ => omega
  intro H locs ls hG hlv
  refine va_sld C.1.1 C.1.2.1 C.2.1 C.2.2.1 C.2.2.2.1 hG.2 (vp_in_nI (show i < L by omega) (by omega)) dL_law_36 ?_
  rw [nI_clamp (by omega)]
  exact kk H locs ls hG hlv
theorem lw_end {cells slots i : Nat} {σ : nS} (C : lC p s m b meth c cells slots D B L xs) (hr : meth.sig.returnType = ret) (hBge : ∀ k, k < 79 → s.heap.size ≤ na B k) (h1 : cells ≤ 601024) (h2 : slots ≤ 7293034) : lJ p l e s m b below meth c cells slots (lw_Z below #[Value.ref b] s) D B 1850 (lvL B b i) [] σ := by
  refine nx_iconst (v := 1) C.1 dL_law_1850 (by decide) ?_
  intro H locs ls hG hlv
  refine W.widen h1 h2 (va_forget (fun q hq => ?_) (lw_ret C.1.1 C.1.2.1 hr C.1.2.2.2.2.2.2.1 dL_law_1851))
  rcases hG.2.2.2 q hq with ⟨k, hk, e1⟩ | h
  · rw [e1]; exact hBge k hk
  · exact h
theorem law_loop (hl : l.stackTraces = false) (hr : meth.sig.returnType = ret) (hBge : ∀ k, k < 79 → s.heap.size ≤ na B k) (hZ : nEz B s.heap.size s s.heap) (hE : nEs s) : ∀ (N n cells slots : Nat) (σ : nS), L < 6 * (n + N) + 6 → 6 * n ≤ L + 5 → Inv σ → lC p s m b meth c cells slots D B L xs → cells + N ≤ 601024 → slots + 6 * N ≤ 7293034 → lJ p l e s m b below meth c cells slots (lw_Z below #[Value.ref b] s) D B 23 (lvL B b (6 * n)) [] σ := by
  intro N
  induction N with
  | zero =>
    intro n cells slots σ hn hnb I C hc hs
    have hL := C.2.2.2.2
    refine nx_iload C.1 0 dL_law_23 rfl ?_
    refine nx_aload_n C.1 1 dL_law_25 rfl ?_
    intro H locs ls hG hlv
    refine va_slen C.1.1 C.1.2.1 C.2.1 C.2.2.1 C.2.2.2.1 hG.2 dL_law_26 ?_
    revert H locs ls
    show lJ p l e s m b below meth c cells slots _ D B 27 (lvL B b (6 * n)) [.int (Int32.ofNat L), .int (nI (6 * n))] σ
    refine nx_bipush (v := nI 6) C.1 dL_law_27 (by decide) ?_
    refine nx_isub C.1 dL_law_29 ?_
    refine nx_icmp_gt (tgt := 1850) C.1 dL_law_30 (by decide) (fun _ => lw_end C hr hBge (by omega) (by omega)) (fun z => ?_)
    exfalso
    refine z ?_
    rw [Int32.lt_iff_toInt_lt]
    show (nI L - nI 6).toInt < (nI (6 * n)).toInt
    rw [pk_sub_toInt (by omega) (by omega), nI_toInt (by omega)]
    omega
  | succ N ih =>
    intro n cells slots σ hn hnb I C hc hs
    have hL := C.2.2.2.2
    refine nx_iload C.1 0 dL_law_23 rfl ?_
    refine nx_aload_n C.1 1 dL_law_25 rfl ?_
    intro H locs ls hG hlv
    refine va_slen C.1.1 C.1.2.1 C.2.1 C.2.2.1 C.2.2.2.1 hG.2 dL_law_26 ?_
    revert H locs ls
    show lJ p l e s m b below meth c cells slots _ D B 27 (lvL B b (6 * n)) [.int (Int32.ofNat L), .int (nI (6 * n))] σ
    refine nx_bipush (v := nI 6) C.1 dL_law_27 (by decide) ?_
    refine nx_isub C.1 dL_law_29 ?_
    refine nx_icmp_gt (tgt := 1850) C.1 dL_law_30 (by decide) (fun _ => lw_end C hr hBge (by omega) (by omega)) (fun z => ?_)
    have hi : 6 * n + 5 < L := by
      rw [Int32.lt_iff_toInt_lt] at z
      have z2 : ¬ (nI L - nI 6).toInt < (nI (6 * n)).toInt := z
      rw [pk_sub_toInt (by omega) (by omega), nI_toInt (by omega)] at z2
      omega
    have C1 := lC_up C (c2 := cells + 1) (s2 := slots + 6) (by omega) (by omega)
    refine lw_case C C1 hl hZ hE hi I (fun τ hτ => ?_)
    have e6 : nI (6 * n) + Int32.ofInt 6 = nI (6 * (n + 1)) := by
      rw [show Int32.ofInt 6 = nI 6 from rfl, show 6 * (n + 1) = 6 * n + 6 by omega]
      unfold nI
      rw [Int32.ofNat_add]
    refine nx_iinc (lv' := lvL B b (6 * (n + 1))) C1.1 0 dL_law_1844 rfl e6 (by decide) rfl ?_
    refine nx_goto (tgt := 23) C1.1 dL_law_1847 (by decide) ?_
    exact ih (n + 1) (cells + 1) (slots + 6) τ (by omega) (by omega) hτ C1 (by omega) (by omega)
end LL
/-- the addresses: the class's, the reference's, the law's row -/
def rB (q5 : Nat) (r5 : Nat → Nat) (q6 : Nat) (r6 : Nat → Nat) (ql : Nat) : Nat → Nat := fun k => if k = 0 then q5 else if k < 63 then r5 k else if k = 63 then q6 else if k < 78 then r6 (k - 63) else ql
theorem rB_5 {q5 : Nat} {r5 : Nat → Nat} {q6 : Nat} {r6 : Nat → Nat} {ql k : Nat} (h1 : 1 ≤ k) (h2 : k < 63) : rB q5 r5 q6 r6 ql k = r5 k := by
  rw [rB, if_neg (by omega), if_pos h2]
set_option maxRecDepth 100000 in
theorem nw0 (B0 : nBT) (q5 : Nat) (r5 : Nat → Nat) (q6 : Nat) (r6 : Nat → Nat) (ql : Nat) : ((q5, oX5 r5) :: ((wX5t B0 r5 ++ wModel B0 q6 r6) ++ [(ql, .inl (B0.2.2.1, 1, .inr (.inl (fun _ => 0))))]) : va_W) = nw (rB q5 r5 q6 r6 ql, B0.2) σ0 := by
  have e1 : (fun i => if i < 8 then some (r5 (29 + 2 * i)) else none) = (fun i => if i < 8 then some (na (rB q5 r5 q6 r6 ql, B0.2) (29 + 2 * i)) else none) := by
    funext i
    by_cases hi : i < 8
    · rw [if_pos hi, if_pos hi]; exact congrArg some (rB_5 (by omega) (by omega)).symm
    · rw [if_neg hi, if_neg hi]
  have e2 : (fun i => if i < 8 then some (r5 (i + 3 + 48)) else none) = (fun i => if i < 8 then some (na (rB q5 r5 q6 r6 ql, B0.2) (51 + i)) else none) := by
    funext i
    by_cases hi : i < 8
    · rw [if_pos hi, if_pos hi, show i + 3 + 48 = 51 + i by omega]; exact congrArg some (rB_5 (by omega) (by omega)).symm
    · rw [if_neg hi, if_neg hi]
  simp only [wX5t, wSet]
  rw [e1, e2]
  rfl
