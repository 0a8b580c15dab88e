/-! THE LAW's rows -/
def lvL (B : nBT) (b i : Nat) : List (Nat × Value) := [(4, .int (nI i)), (0, .ref b), (1, .ref (na B 0)), (2, .ref (na B 63)), (3, .ref (na B 78))]
def lC (p : Program) (s : State) (m : MethodId) (b : Nat) (meth : Method) (c : Code) (cells slots : Nat) (D : va_G) (B : nBT) (L : Nat) (xs : Nat → Int32) : Prop :=
  nC p room_1 s m #[Value.ref b] meth c cells slots D B 8 cL_law wsL_law RL ∧ va_X b L xs s s.heap ∧ b < s.heap.size ∧ ¬ nA B s.heap.size b ∧ L ≤ 3072
abbrev lJ (p : Program) (l : Launch) (e : Env) (s : State) (m : MethodId) (b : Nat) (below : List Frame) (meth : Method) (c : Code) (cells slots : Nat) (Q : State → Prop) (D : va_G) (B : nBT) (pc : Nat) (lv : List (Nat × Value)) (st : List Value) (σ : nS) : Prop := nJ p l e room_1 s m #[Value.ref b] below meth c cells slots Q D B 8 pc lv st σ
theorem lC_inj {p : Program} {s : State} {m : MethodId} {b : Nat} {meth : Method} {c : Code} {cells slots : Nat} {D : va_G} {B : nBT} {L : Nat} {xs : Nat → Int32} (C : lC p s m b meth c cells slots D B L xs) : nInj B := C.1.2.2.2.2.2.2.2.1
theorem nx_widen {p : Program} {l : Launch} {e : Env} {R : Room} {s : State} {m : MethodId} {args : Array Value} {below : List Frame} {meth : Method} {c : Code} {cells slots cells2 slots2 : Nat} {Q : State → Prop} {D : va_G} {B : nBT} {nL pc : Nat} {lv : List (Nat × Value)} {st : List Value} {σ : nS} (h1 : cells ≤ cells2) (h2 : slots ≤ slots2) (k : nJ p l e R s m args below meth c cells2 slots2 Q D B nL pc lv st σ) : nJ p l e R s m args below meth c cells slots Q D B nL pc lv st σ := fun H locs ls hG hl => W.widen h1 h2 (k H locs ls hG hl)
theorem lg_cmp_self (x : Int64) : lg_cmp x x = 0 := by simp [lg_cmp]
theorem nI0_of {k : Nat} (hk : k < 3) (h : nI k = 0) : k = 0 := by
  match k, hk with
  | 0, _ => rfl
  | 1, _ => exact absurd h (by decide)
  | 2, _ => exact absurd h (by decide)
  | k + 3, hk => omega
section LW
variable {p : Program} {l : Launch} {e : Env} {s : State} {m : MethodId} {below : List Frame} {meth : Method} {c : Code} {cells slots b : Nat} {Q : State → Prop} {D : va_G} {B : nBT} {L : Nat} {xs : Nat → Int32} {σ : nS} {i : Nat}
theorem nx_arg (C : lC p s m b meth c cells slots D B L xs) {lv : List (Nat × Value)} {st : List Value} {pc k : Nat} {n : Int} (q0 q4 : Nat) (h0 : lv[q0]? = some (0, .ref b)) (h4 : lv[q4]? = some (4, .int (nI i))) (hn : Int32.ofInt n = nI k) (hik : i + k < L) (d0 : decode cL_law pc = .ok (.aload_n 0, 1)) (d1 : decode cL_law (pc + 1) = .ok (.iload 4, 2)) (d3 : decode cL_law (pc + 3) = .ok (.iconst n, 1)) (d4 : decode cL_law (pc + 4) = .ok (.iadd, 1)) (d5 : decode cL_law (pc + 5) = .ok (.iaload, 1))
    (kk : lJ p l e s m b below meth c cells slots Q D B (pc + 6) lv (.int (xs (i + k)) :: st) σ) : lJ p l e s m b below meth c cells slots Q D B pc lv st σ := by
  have hL := C.2.2.2.2
  refine nx_aload_n C.1 q0 d0 h0 ?_
  refine nx_iload C.1 q4 d1 h4 ?_
  refine nx_iconst (v := nI k) C.1 d3 hn ?_
  refine nx_iadd C.1 d4 ?_
  have e1 : nI i + nI k = nI (i + k) := by unfold nI; rw [Int32.ofNat_add]
  rw [e1]
  intro H locs ls hG hl
  have hv : vp_in (nI (i + k)) L := vp_in_nI hik (by omega)
  refine va_sld C.1.1 C.1.2.1 C.2.1 C.2.2.1 C.2.2.2.1 hG.2 hv d5 ?_
  rw [nI_clamp (by omega)]
  exact kk H locs ls hG hl
theorem lw_c0 (C : lC p s m b meth c cells slots D B L xs) (hi : i + 5 < L) (I : Inv σ) (K : ∀ τ, Inv τ → lJ p l e s m b below meth c cells slots Q D B 1844 (lvL B b i) [] τ) : lJ p l e s m b below meth c cells slots Q D B 232 (lvL B b i) [] σ := by
  obtain ⟨r, τ, υ, h1, h2, h3⟩ := S_town I (xs (i + 1))
  refine nx_aload_n C.1 2 dL_law_232 rfl ?_
  refine nx_arg (k := 1) C 1 0 rfl rfl (by decide) (by omega) dL_law_233 dL_law_234 dL_law_236 dL_law_237 dL_law_238 ?_
  refine nx_cVi (C := RX5) (k := 0) (ci := 5) (n := 1) (As := [.int (xs (i + 1))]) (st := []) C.1 (mX5_town l D B (lC_inj C) (xs (i + 1)) σ h1) gL_law_X5_town rfl rfl rfl ndX5_town ⟨(Nat.le_of_ble_eq_true rfl), (Nat.le_of_ble_eq_true rfl)⟩ (by decide) rfl rfl rfl rfl (Nat.le_of_ble_eq_true rfl) rfl dL_law_239 ?_
  refine nx_aload_n C.1 3 dL_law_242 rfl ?_
  refine nx_arg (k := 1) C 1 0 rfl rfl (by decide) (by omega) dL_law_243 dL_law_244 dL_law_246 dL_law_247 dL_law_248 ?_
  refine nx_cVi (C := RX6) (k := 63) (ci := 6) (n := 1) (As := [.int (xs (i + 1))]) (st := [.int r]) C.1 (mX6_town l D B (lC_inj C) (xs (i + 1)) τ h2) gL_law_X6_town rfl rfl rfl ndX6_town ⟨(Nat.le_of_ble_eq_true rfl), (Nat.le_of_ble_eq_true rfl)⟩ (by decide) rfl rfl rfl rfl (Nat.le_of_ble_eq_true rfl) rfl dL_law_249 ?_
  exact nx_icmp_eq (tgt := 1844) C.1 dL_law_252 (by decide) (fun _ => K υ h3) (fun z => absurd rfl z)
theorem lw_c1 (C : lC p s m b meth c cells slots D B L xs) (hi : i + 5 < L) (I : Inv σ) (K : ∀ τ, Inv τ → lJ p l e s m b below meth c cells slots Q D B 1844 (lvL B b i) [] τ) : lJ p l e s m b below meth c cells slots Q D B 257 (lvL B b i) [] σ := by
  obtain ⟨r, h1, h2⟩ := S_good I (xs (i + 1)) (xs (i + 2))
  refine nx_aload_n C.1 2 dL_law_257 rfl ?_
  refine nx_arg (k := 1) C 1 0 rfl rfl (by decide) (by omega) dL_law_258 dL_law_259 dL_law_261 dL_law_262 dL_law_263 ?_
  refine nx_arg (k := 2) C 1 0 rfl rfl (by decide) (by omega) dL_law_264 dL_law_265 dL_law_267 dL_law_268 dL_law_269 ?_
  refine nx_cVi (C := RX5) (k := 0) (ci := 5) (n := 2) (As := [.int (xs (i + 1)), .int (xs (i + 2))]) (st := []) C.1 (mX5_good l D B (lC_inj C) (xs (i + 1)) (xs (i + 2)) σ h1) gL_law_X5_good rfl rfl rfl ndX5_good ⟨(Nat.le_of_ble_eq_true rfl), (Nat.le_of_ble_eq_true rfl)⟩ (by decide) rfl rfl rfl rfl (Nat.le_of_ble_eq_true rfl) rfl dL_law_270 ?_
  refine nx_aload_n C.1 3 dL_law_273 rfl ?_
  refine nx_arg (k := 1) C 1 0 rfl rfl (by decide) (by omega) dL_law_274 dL_law_275 dL_law_277 dL_law_278 dL_law_279 ?_
  refine nx_arg (k := 2) C 1 0 rfl rfl (by decide) (by omega) dL_law_280 dL_law_281 dL_law_283 dL_law_284 dL_law_285 ?_
  refine nx_cVi (C := RX6) (k := 63) (ci := 6) (n := 2) (As := [.int (xs (i + 1)), .int (xs (i + 2))]) (st := [.int r]) C.1 (mX6_good l D B (lC_inj C) (xs (i + 1)) (xs (i + 2)) σ h2) gL_law_X6_good rfl rfl rfl ndX6_good ⟨(Nat.le_of_ble_eq_true rfl), (Nat.le_of_ble_eq_true rfl)⟩ (by decide) rfl rfl rfl rfl (Nat.le_of_ble_eq_true rfl) rfl dL_law_286 ?_
  exact nx_icmp_eq (tgt := 1844) C.1 dL_law_289 (by decide) (fun _ => K σ I) (fun z => absurd rfl z)
theorem lw_c2 (C : lC p s m b meth c cells slots D B L xs) (hi : i + 5 < L) (I : Inv σ) (K : ∀ τ, Inv τ → lJ p l e s m b below meth c cells slots Q D B 1844 (lvL B b i) [] τ) : lJ p l e s m b below meth c cells slots Q D B 294 (lvL B b i) [] σ := by
  obtain ⟨r, h1, h2⟩ := S_person I (xs (i + 1)) (xs (i + 2))
  refine nx_aload_n C.1 2 dL_law_294 rfl ?_
  refine nx_arg (k := 1) C 1 0 rfl rfl (by decide) (by omega) dL_law_295 dL_law_296 dL_law_298 dL_law_299 dL_law_300 ?_
  refine nx_arg (k := 2) C 1 0 rfl rfl (by decide) (by omega) dL_law_301 dL_law_302 dL_law_304 dL_law_305 dL_law_306 ?_
  refine nx_cVi (C := RX5) (k := 0) (ci := 5) (n := 2) (As := [.int (xs (i + 1)), .int (xs (i + 2))]) (st := []) C.1 (mX5_person l D B (lC_inj C) (xs (i + 1)) (xs (i + 2)) σ h1) gL_law_X5_person rfl rfl rfl ndX5_person ⟨(Nat.le_of_ble_eq_true rfl), (Nat.le_of_ble_eq_true rfl)⟩ (by decide) rfl rfl rfl rfl (Nat.le_of_ble_eq_true rfl) rfl dL_law_307 ?_
  refine nx_aload_n C.1 3 dL_law_310 rfl ?_
  refine nx_arg (k := 1) C 1 0 rfl rfl (by decide) (by omega) dL_law_311 dL_law_312 dL_law_314 dL_law_315 dL_law_316 ?_
  refine nx_arg (k := 2) C 1 0 rfl rfl (by decide) (by omega) dL_law_317 dL_law_318 dL_law_320 dL_law_321 dL_law_322 ?_
  refine nx_cVi (C := RX6) (k := 63) (ci := 6) (n := 2) (As := [.int (xs (i + 1)), .int (xs (i + 2))]) (st := [.int r]) C.1 (mX6_person l D B (lC_inj C) (xs (i + 1)) (xs (i + 2)) σ h2) gL_law_X6_person rfl rfl rfl ndX6_person ⟨(Nat.le_of_ble_eq_true rfl), (Nat.le_of_ble_eq_true rfl)⟩ (by decide) rfl rfl rfl rfl (Nat.le_of_ble_eq_true rfl) rfl dL_law_323 ?_
  exact nx_icmp_eq (tgt := 1844) C.1 dL_law_326 (by decide) (fun _ => K σ I) (fun z => absurd rfl z)
theorem lw_c3 (C : lC p s m b meth c cells slots D B L xs) (hi : i + 5 < L) (I : Inv σ) (K : ∀ τ, Inv τ → lJ p l e s m b below meth c cells slots Q D B 1844 (lvL B b i) [] τ) : lJ p l e s m b below meth c cells slots Q D B 331 (lvL B b i) [] σ := by
  obtain ⟨r, h1, h2⟩ := S_loan I (xs (i + 1)) (xs (i + 2))
  refine nx_aload_n C.1 2 dL_law_331 rfl ?_
  refine nx_arg (k := 1) C 1 0 rfl rfl (by decide) (by omega) dL_law_332 dL_law_333 dL_law_335 dL_law_336 dL_law_337 ?_
  refine nx_arg (k := 2) C 1 0 rfl rfl (by decide) (by omega) dL_law_338 dL_law_339 dL_law_341 dL_law_342 dL_law_343 ?_
  refine nx_cVi (C := RX5) (k := 0) (ci := 5) (n := 2) (As := [.int (xs (i + 1)), .int (xs (i + 2))]) (st := []) C.1 (mX5_loan l D B (lC_inj C) (xs (i + 1)) (xs (i + 2)) σ h1) gL_law_X5_loan rfl rfl rfl ndX5_loan ⟨(Nat.le_of_ble_eq_true rfl), (Nat.le_of_ble_eq_true rfl)⟩ (by decide) rfl rfl rfl rfl (Nat.le_of_ble_eq_true rfl) rfl dL_law_344 ?_
  refine nx_aload_n C.1 3 dL_law_347 rfl ?_
  refine nx_arg (k := 1) C 1 0 rfl rfl (by decide) (by omega) dL_law_348 dL_law_349 dL_law_351 dL_law_352 dL_law_353 ?_
  refine nx_arg (k := 2) C 1 0 rfl rfl (by decide) (by omega) dL_law_354 dL_law_355 dL_law_357 dL_law_358 dL_law_359 ?_
  refine nx_cVi (C := RX6) (k := 63) (ci := 6) (n := 2) (As := [.int (xs (i + 1)), .int (xs (i + 2))]) (st := [.int r]) C.1 (mX6_loan l D B (lC_inj C) (xs (i + 1)) (xs (i + 2)) σ h2) gL_law_X6_loan rfl rfl rfl ndX6_loan ⟨(Nat.le_of_ble_eq_true rfl), (Nat.le_of_ble_eq_true rfl)⟩ (by decide) rfl rfl rfl rfl (Nat.le_of_ble_eq_true rfl) rfl dL_law_360 ?_
  exact nx_icmp_eq (tgt := 1844) C.1 dL_law_363 (by decide) (fun _ => K σ I) (fun z => absurd rfl z)
theorem lw_c4 (C : lC p s m b meth c cells slots D B L xs) (hi : i + 5 < L) (I : Inv σ) (K : ∀ τ, Inv τ → lJ p l e s m b below meth c cells slots Q D B 1844 (lvL B b i) [] τ) : lJ p l e s m b below meth c cells slots Q D B 368 (lvL B b i) [] σ := by
  obtain ⟨r, τ, υ, h1, h2, h3⟩ := S_comes I (xs (i + 1))
  refine nx_aload_n C.1 2 dL_law_368 rfl ?_
  refine nx_arg (k := 1) C 1 0 rfl rfl (by decide) (by omega) dL_law_369 dL_law_370 dL_law_372 dL_law_373 dL_law_374 ?_
  refine nx_cVi (C := RX5) (k := 0) (ci := 5) (n := 1) (As := [.int (xs (i + 1))]) (st := []) C.1 (mX5_comes l D B (lC_inj C) (xs (i + 1)) σ h1) gL_law_X5_comes rfl rfl rfl ndX5_comes ⟨(Nat.le_of_ble_eq_true rfl), (Nat.le_of_ble_eq_true rfl)⟩ (by decide) rfl rfl rfl rfl (Nat.le_of_ble_eq_true rfl) rfl dL_law_375 ?_
  refine nx_aload_n C.1 3 dL_law_378 rfl ?_
  refine nx_arg (k := 1) C 1 0 rfl rfl (by decide) (by omega) dL_law_379 dL_law_380 dL_law_382 dL_law_383 dL_law_384 ?_
  refine nx_cVi (C := RX6) (k := 63) (ci := 6) (n := 1) (As := [.int (xs (i + 1))]) (st := [.int r]) C.1 (mX6_comes l D B (lC_inj C) (xs (i + 1)) τ h2) gL_law_X6_comes rfl rfl rfl ndX6_comes ⟨(Nat.le_of_ble_eq_true rfl), (Nat.le_of_ble_eq_true rfl)⟩ (by decide) rfl rfl rfl rfl (Nat.le_of_ble_eq_true rfl) rfl dL_law_385 ?_
  exact nx_icmp_eq (tgt := 1844) C.1 dL_law_388 (by decide) (fun _ => K υ h3) (fun z => absurd rfl z)
theorem lw_c5 (C : lC p s m b meth c cells slots D B L xs) (hi : i + 5 < L) (I : Inv σ) (K : ∀ τ, Inv τ → lJ p l e s m b below meth c cells slots Q D B 1844 (lvL B b i) [] τ) : lJ p l e s m b below meth c cells slots Q D B 393 (lvL B b i) [] σ := by
  obtain ⟨r, τ, υ, h1, h2, h3⟩ := S_brings I (xs (i + 1)) (xs (i + 2))
  refine nx_aload_n C.1 2 dL_law_393 rfl ?_
  refine nx_arg (k := 1) C 1 0 rfl rfl (by decide) (by omega) dL_law_394 dL_law_395 dL_law_397 dL_law_398 dL_law_399 ?_
  refine nx_arg (k := 2) C 1 0 rfl rfl (by decide) (by omega) dL_law_400 dL_law_401 dL_law_403 dL_law_404 dL_law_405 ?_
  refine nx_cVi (C := RX5) (k := 0) (ci := 5) (n := 2) (As := [.int (xs (i + 1)), .int (xs (i + 2))]) (st := []) C.1 (mX5_brings l D B (lC_inj C) (xs (i + 1)) (xs (i + 2)) σ h1) gL_law_X5_brings rfl rfl rfl ndX5_brings ⟨(Nat.le_of_ble_eq_true rfl), (Nat.le_of_ble_eq_true rfl)⟩ (by decide) rfl rfl rfl rfl (Nat.le_of_ble_eq_true rfl) rfl dL_law_406 ?_
  refine nx_aload_n C.1 3 dL_law_409 rfl ?_
  refine nx_arg (k := 1) C 1 0 rfl rfl (by decide) (by omega) dL_law_410 dL_law_411 dL_law_413 dL_law_414 dL_law_415 ?_
  refine nx_arg (k := 2) C 1 0 rfl rfl (by decide) (by omega) dL_law_416 dL_law_417 dL_law_419 dL_law_420 dL_law_421 ?_
  refine nx_cVi (C := RX6) (k := 63) (ci := 6) (n := 2) (As := [.int (xs (i + 1)), .int (xs (i + 2))]) (st := [.int r]) C.1 (mX6_brings l D B (lC_inj C) (xs (i + 1)) (xs (i + 2)) τ h2) gL_law_X6_brings rfl rfl rfl ndX6_brings ⟨(Nat.le_of_ble_eq_true rfl), (Nat.le_of_ble_eq_true rfl)⟩ (by decide) rfl rfl rfl rfl (Nat.le_of_ble_eq_true rfl) rfl dL_law_422 ?_
  exact nx_icmp_eq (tgt := 1844) C.1 dL_law_425 (by decide) (fun _ => K υ h3) (fun z => absurd rfl z)
theorem lw_c6 (C : lC p s m b meth c cells slots D B L xs) (hi : i + 5 < L) (I : Inv σ) (K : ∀ τ, Inv τ → lJ p l e s m b below meth c cells slots Q D B 1844 (lvL B b i) [] τ) : lJ p l e s m b below meth c cells slots Q D B 430 (lvL B b i) [] σ := by
  obtain ⟨r, τ, υ, h1, h2, h3⟩ := S_lends I (xs (i + 1)) (xs (i + 2))
  refine nx_aload_n C.1 2 dL_law_430 rfl ?_
  refine nx_arg (k := 1) C 1 0 rfl rfl (by decide) (by omega) dL_law_431 dL_law_432 dL_law_434 dL_law_435 dL_law_436 ?_
  refine nx_arg (k := 2) C 1 0 rfl rfl (by decide) (by omega) dL_law_437 dL_law_438 dL_law_440 dL_law_441 dL_law_442 ?_
  refine nx_cVi (C := RX5) (k := 0) (ci := 5) (n := 2) (As := [.int (xs (i + 1)), .int (xs (i + 2))]) (st := []) C.1 (mX5_lends l D B (lC_inj C) (xs (i + 1)) (xs (i + 2)) σ h1) gL_law_X5_lends rfl rfl rfl ndX5_lends ⟨(Nat.le_of_ble_eq_true rfl), (Nat.le_of_ble_eq_true rfl)⟩ (by decide) rfl rfl rfl rfl (Nat.le_of_ble_eq_true rfl) rfl dL_law_443 ?_
  refine nx_aload_n C.1 3 dL_law_446 rfl ?_
  refine nx_arg (k := 1) C 1 0 rfl rfl (by decide) (by omega) dL_law_447 dL_law_448 dL_law_450 dL_law_451 dL_law_452 ?_
  refine nx_arg (k := 2) C 1 0 rfl rfl (by decide) (by omega) dL_law_453 dL_law_454 dL_law_456 dL_law_457 dL_law_458 ?_
  refine nx_cVi (C := RX6) (k := 63) (ci := 6) (n := 2) (As := [.int (xs (i + 1)), .int (xs (i + 2))]) (st := [.int r]) C.1 (mX6_lends l D B (lC_inj C) (xs (i + 1)) (xs (i + 2)) τ h2) gL_law_X6_lends rfl rfl rfl ndX6_lends ⟨(Nat.le_of_ble_eq_true rfl), (Nat.le_of_ble_eq_true rfl)⟩ (by decide) rfl rfl rfl rfl (Nat.le_of_ble_eq_true rfl) rfl dL_law_459 ?_
  exact nx_icmp_eq (tgt := 1844) C.1 dL_law_462 (by decide) (fun _ => K υ h3) (fun z => absurd rfl z)
theorem lw_c7 (C : lC p s m b meth c cells slots D B L xs) (hi : i + 5 < L) (I : Inv σ) (K : ∀ τ, Inv τ → lJ p l e s m b below meth c cells slots Q D B 1844 (lvL B b i) [] τ) : lJ p l e s m b below meth c cells slots Q D B 467 (lvL B b i) [] σ := by
  obtain ⟨r, τ, υ, h1, h2, h3⟩ := S_pays I (xs (i + 1)) (xs (i + 2))
  refine nx_aload_n C.1 2 dL_law_467 rfl ?_
  refine nx_arg (k := 1) C 1 0 rfl rfl (by decide) (by omega) dL_law_468 dL_law_469 dL_law_471 dL_law_472 dL_law_473 ?_
  refine nx_arg (k := 2) C 1 0 rfl rfl (by decide) (by omega) dL_law_474 dL_law_475 dL_law_477 dL_law_478 dL_law_479 ?_
  refine nx_cVi (C := RX5) (k := 0) (ci := 5) (n := 2) (As := [.int (xs (i + 1)), .int (xs (i + 2))]) (st := []) C.1 (mX5_pays l D B (lC_inj C) (xs (i + 1)) (xs (i + 2)) σ h1) gL_law_X5_pays rfl rfl rfl ndX5_pays ⟨(Nat.le_of_ble_eq_true rfl), (Nat.le_of_ble_eq_true rfl)⟩ (by decide) rfl rfl rfl rfl (Nat.le_of_ble_eq_true rfl) rfl dL_law_480 ?_
  refine nx_aload_n C.1 3 dL_law_483 rfl ?_
  refine nx_arg (k := 1) C 1 0 rfl rfl (by decide) (by omega) dL_law_484 dL_law_485 dL_law_487 dL_law_488 dL_law_489 ?_
  refine nx_arg (k := 2) C 1 0 rfl rfl (by decide) (by omega) dL_law_490 dL_law_491 dL_law_493 dL_law_494 dL_law_495 ?_
  refine nx_cVi (C := RX6) (k := 63) (ci := 6) (n := 2) (As := [.int (xs (i + 1)), .int (xs (i + 2))]) (st := [.int r]) C.1 (mX6_pays l D B (lC_inj C) (xs (i + 1)) (xs (i + 2)) τ h2) gL_law_X6_pays rfl rfl rfl ndX6_pays ⟨(Nat.le_of_ble_eq_true rfl), (Nat.le_of_ble_eq_true rfl)⟩ (by decide) rfl rfl rfl rfl (Nat.le_of_ble_eq_true rfl) rfl dL_law_496 ?_
  exact nx_icmp_eq (tgt := 1844) C.1 dL_law_499 (by decide) (fun _ => K υ h3) (fun z => absurd rfl z)
theorem lw_c8 (C : lC p s m b meth c cells slots D B L xs) (hi : i + 5 < L) (I : Inv σ) (K : ∀ τ, Inv τ → lJ p l e s m b below meth c cells slots Q D B 1844 (lvL B b i) [] τ) : lJ p l e s m b below meth c cells slots Q D B 504 (lvL B b i) [] σ := by
  obtain ⟨r, τ, υ, h1, h2, h3⟩ := S_sames I (xs (i + 1)) (xs (i + 2))
  refine nx_aload_n C.1 2 dL_law_504 rfl ?_
  refine nx_arg (k := 1) C 1 0 rfl rfl (by decide) (by omega) dL_law_505 dL_law_506 dL_law_508 dL_law_509 dL_law_510 ?_
  refine nx_arg (k := 2) C 1 0 rfl rfl (by decide) (by omega) dL_law_511 dL_law_512 dL_law_514 dL_law_515 dL_law_516 ?_
  refine nx_cVi (C := RX5) (k := 0) (ci := 5) (n := 2) (As := [.int (xs (i + 1)), .int (xs (i + 2))]) (st := []) C.1 (mX5_sames l D B (lC_inj C) (xs (i + 1)) (xs (i + 2)) σ h1) gL_law_X5_sames rfl rfl rfl ndX5_sames ⟨(Nat.le_of_ble_eq_true rfl), (Nat.le_of_ble_eq_true rfl)⟩ (by decide) rfl rfl rfl rfl (Nat.le_of_ble_eq_true rfl) rfl dL_law_517 ?_
  refine nx_aload_n C.1 3 dL_law_520 rfl ?_
  refine nx_arg (k := 1) C 1 0 rfl rfl (by decide) (by omega) dL_law_521 dL_law_522 dL_law_524 dL_law_525 dL_law_526 ?_
  refine nx_arg (k := 2) C 1 0 rfl rfl (by decide) (by omega) dL_law_527 dL_law_528 dL_law_530 dL_law_531 dL_law_532 ?_
  refine nx_cVi (C := RX6) (k := 63) (ci := 6) (n := 2) (As := [.int (xs (i + 1)), .int (xs (i + 2))]) (st := [.int r]) C.1 (mX6_sames l D B (lC_inj C) (xs (i + 1)) (xs (i + 2)) τ h2) gL_law_X6_sames rfl rfl rfl ndX6_sames ⟨(Nat.le_of_ble_eq_true rfl), (Nat.le_of_ble_eq_true rfl)⟩ (by decide) rfl rfl rfl rfl (Nat.le_of_ble_eq_true rfl) rfl dL_law_533 ?_
  exact nx_icmp_eq (tgt := 1844) C.1 dL_law_536 (by decide) (fun _ => K υ h3) (fun z => absurd rfl z)
theorem lw_c9 (C : lC p s m b meth c cells slots D B L xs) (hi : i + 5 < L) (I : Inv σ) (K : ∀ τ, Inv τ → lJ p l e s m b below meth c cells slots Q D B 1844 (lvL B b i) [] τ) : lJ p l e s m b below meth c cells slots Q D B 541 (lvL B b i) [] σ := by
  obtain ⟨r, τ, υ, h1, h2, h3⟩ := S_weeks I (xs (i + 1))
  refine nx_aload_n C.1 2 dL_law_541 rfl ?_
  refine nx_arg (k := 1) C 1 0 rfl rfl (by decide) (by omega) dL_law_542 dL_law_543 dL_law_545 dL_law_546 dL_law_547 ?_
  refine nx_cVi (C := RX5) (k := 0) (ci := 5) (n := 1) (As := [.int (xs (i + 1))]) (st := []) C.1 (mX5_weeks l D B (lC_inj C) (xs (i + 1)) σ h1) gL_law_X5_weeks rfl rfl rfl ndX5_weeks ⟨(Nat.le_of_ble_eq_true rfl), (Nat.le_of_ble_eq_true rfl)⟩ (by decide) rfl rfl rfl rfl (Nat.le_of_ble_eq_true rfl) rfl dL_law_548 ?_
  refine nx_aload_n C.1 3 dL_law_551 rfl ?_
  refine nx_arg (k := 1) C 1 0 rfl rfl (by decide) (by omega) dL_law_552 dL_law_553 dL_law_555 dL_law_556 dL_law_557 ?_
  refine nx_cVi (C := RX6) (k := 63) (ci := 6) (n := 1) (As := [.int (xs (i + 1))]) (st := [.int r]) C.1 (mX6_weeks l D B (lC_inj C) (xs (i + 1)) τ h2) gL_law_X6_weeks rfl rfl rfl ndX6_weeks ⟨(Nat.le_of_ble_eq_true rfl), (Nat.le_of_ble_eq_true rfl)⟩ (by decide) rfl rfl rfl rfl (Nat.le_of_ble_eq_true rfl) rfl dL_law_558 ?_
  exact nx_icmp_eq (tgt := 1844) C.1 dL_law_561 (by decide) (fun _ => K υ h3) (fun z => absurd rfl z)
theorem lw_c10 (C : lC p s m b meth c cells slots D B L xs) (hi : i + 5 < L) (I : Inv σ) (K : ∀ τ, Inv τ → lJ p l e s m b below meth c cells slots Q D B 1844 (lvL B b i) [] τ) : lJ p l e s m b below meth c cells slots Q D B 566 (lvL B b i) [] σ := by
  obtain ⟨r, h1, h2⟩ := S_worth I (xs (i + 1)) (xs (i + 2))
  refine nx_aload_n C.1 2 dL_law_566 rfl ?_
  refine nx_arg (k := 1) C 1 0 rfl rfl (by decide) (by omega) dL_law_567 dL_law_568 dL_law_570 dL_law_571 dL_law_572 ?_
  refine nx_arg (k := 2) C 1 0 rfl rfl (by decide) (by omega) dL_law_573 dL_law_574 dL_law_576 dL_law_577 dL_law_578 ?_
  refine nx_cVi (C := RX5) (k := 0) (ci := 5) (n := 2) (As := [.int (xs (i + 1)), .int (xs (i + 2))]) (st := []) C.1 (mX5_worth l D B (lC_inj C) (xs (i + 1)) (xs (i + 2)) σ h1) gL_law_X5_worth rfl rfl rfl ndX5_worth ⟨(Nat.le_of_ble_eq_true rfl), (Nat.le_of_ble_eq_true rfl)⟩ (by decide) rfl rfl rfl rfl (Nat.le_of_ble_eq_true rfl) rfl dL_law_579 ?_
  refine nx_aload_n C.1 3 dL_law_582 rfl ?_
  refine nx_arg (k := 1) C 1 0 rfl rfl (by decide) (by omega) dL_law_583 dL_law_584 dL_law_586 dL_law_587 dL_law_588 ?_
  refine nx_arg (k := 2) C 1 0 rfl rfl (by decide) (by omega) dL_law_589 dL_law_590 dL_law_592 dL_law_593 dL_law_594 ?_
  refine nx_cVi (C := RX6) (k := 63) (ci := 6) (n := 2) (As := [.int (xs (i + 1)), .int (xs (i + 2))]) (st := [.int r]) C.1 (mX6_worth l D B (lC_inj C) (xs (i + 1)) (xs (i + 2)) σ h2) gL_law_X6_worth rfl rfl rfl ndX6_worth ⟨(Nat.le_of_ble_eq_true rfl), (Nat.le_of_ble_eq_true rfl)⟩ (by decide) rfl rfl rfl rfl (Nat.le_of_ble_eq_true rfl) rfl dL_law_595 ?_
  exact nx_icmp_eq (tgt := 1844) C.1 dL_law_598 (by decide) (fun _ => K σ I) (fun z => absurd rfl z)
theorem lw_c11 (C : lC p s m b meth c cells slots D B L xs) (hi : i + 5 < L) (I : Inv σ) (K : ∀ τ, Inv τ → lJ p l e s m b below meth c cells slots Q D B 1844 (lvL B b i) [] τ) : lJ p l e s m b below meth c cells slots Q D B 603 (lvL B b i) [] σ := by
  obtain ⟨r, h1, h2⟩ := S_would I (xs (i + 1)) (xs (i + 2)) (xs (i + 3))
  refine nx_aload_n C.1 2 dL_law_603 rfl ?_
  refine nx_arg (k := 1) C 1 0 rfl rfl (by decide) (by omega) dL_law_604 dL_law_605 dL_law_607 dL_law_608 dL_law_609 ?_
  refine nx_arg (k := 2) C 1 0 rfl rfl (by decide) (by omega) dL_law_610 dL_law_611 dL_law_613 dL_law_614 dL_law_615 ?_
  refine nx_arg (k := 3) C 1 0 rfl rfl (by decide) (by omega) dL_law_616 dL_law_617 dL_law_619 dL_law_620 dL_law_621 ?_
  refine nx_cVi (C := RX5) (k := 0) (ci := 5) (n := 3) (As := [.int (xs (i + 1)), .int (xs (i + 2)), .int (xs (i + 3))]) (st := []) C.1 (mX5_would l D B (lC_inj C) (xs (i + 1)) (xs (i + 2)) (xs (i + 3)) σ h1) gL_law_X5_would rfl rfl rfl ndX5_would ⟨(Nat.le_of_ble_eq_true rfl), (Nat.le_of_ble_eq_true rfl)⟩ (by decide) rfl rfl rfl rfl (Nat.le_of_ble_eq_true rfl) rfl dL_law_622 ?_
  refine nx_aload_n C.1 3 dL_law_625 rfl ?_
  refine nx_arg (k := 1) C 1 0 rfl rfl (by decide) (by omega) dL_law_626 dL_law_627 dL_law_629 dL_law_630 dL_law_631 ?_
  refine nx_arg (k := 2) C 1 0 rfl rfl (by decide) (by omega) dL_law_632 dL_law_633 dL_law_635 dL_law_636 dL_law_637 ?_
  refine nx_arg (k := 3) C 1 0 rfl rfl (by decide) (by omega) dL_law_638 dL_law_639 dL_law_641 dL_law_642 dL_law_643 ?_
  refine nx_cVi (C := RX6) (k := 63) (ci := 6) (n := 3) (As := [.int (xs (i + 1)), .int (xs (i + 2)), .int (xs (i + 3))]) (st := [.int r]) C.1 (mX6_would l D B (lC_inj C) (xs (i + 1)) (xs (i + 2)) (xs (i + 3)) σ h2) gL_law_X6_would rfl rfl rfl ndX6_would ⟨(Nat.le_of_ble_eq_true rfl), (Nat.le_of_ble_eq_true rfl)⟩ (by decide) rfl rfl rfl rfl (Nat.le_of_ble_eq_true rfl) rfl dL_law_644 ?_
  exact nx_icmp_eq (tgt := 1844) C.1 dL_law_647 (by decide) (fun _ => K σ I) (fun z => absurd rfl z)
theorem lw_c12 (C : lC p s m b meth c cells slots D B L xs) (hi : i + 5 < L) (I : Inv σ) (K : ∀ τ, Inv τ → lJ p l e s m b below meth c cells slots Q D B 1844 (lvL B b i) [] τ) : lJ p l e s m b below meth c cells slots Q D B 652 (lvL B b i) [] σ := by
  obtain ⟨r, h1, h2⟩ := S_takes I (xs (i + 1)) (xs (i + 2))
  refine nx_aload_n C.1 2 dL_law_652 rfl ?_
  refine nx_arg (k := 1) C 1 0 rfl rfl (by decide) (by omega) dL_law_653 dL_law_654 dL_law_656 dL_law_657 dL_law_658 ?_
  refine nx_arg (k := 2) C 1 0 rfl rfl (by decide) (by omega) dL_law_659 dL_law_660 dL_law_662 dL_law_663 dL_law_664 ?_
  refine nx_cVi (C := RX5) (k := 0) (ci := 5) (n := 2) (As := [.int (xs (i + 1)), .int (xs (i + 2))]) (st := []) C.1 (mX5_takes l D B (lC_inj C) (xs (i + 1)) (xs (i + 2)) σ h1) gL_law_X5_takes rfl rfl rfl ndX5_takes ⟨(Nat.le_of_ble_eq_true rfl), (Nat.le_of_ble_eq_true rfl)⟩ (by decide) rfl rfl rfl rfl (Nat.le_of_ble_eq_true rfl) rfl dL_law_665 ?_
  refine nx_aload_n C.1 3 dL_law_668 rfl ?_
  refine nx_arg (k := 1) C 1 0 rfl rfl (by decide) (by omega) dL_law_669 dL_law_670 dL_law_672 dL_law_673 dL_law_674 ?_
  refine nx_arg (k := 2) C 1 0 rfl rfl (by decide) (by omega) dL_law_675 dL_law_676 dL_law_678 dL_law_679 dL_law_680 ?_
  refine nx_cVi (C := RX6) (k := 63) (ci := 6) (n := 2) (As := [.int (xs (i + 1)), .int (xs (i + 2))]) (st := [.int r]) C.1 (mX6_takes l D B (lC_inj C) (xs (i + 1)) (xs (i + 2)) σ h2) gL_law_X6_takes rfl rfl rfl ndX6_takes ⟨(Nat.le_of_ble_eq_true rfl), (Nat.le_of_ble_eq_true rfl)⟩ (by decide) rfl rfl rfl rfl (Nat.le_of_ble_eq_true rfl) rfl dL_law_681 ?_
  exact nx_icmp_eq (tgt := 1844) C.1 dL_law_684 (by decide) (fun _ => K σ I) (fun z => absurd rfl z)
theorem lw_c13 (C : lC p s m b meth c cells slots D B L xs) (hi : i + 5 < L) (I : Inv σ) (K : ∀ τ, Inv τ → lJ p l e s m b below meth c cells slots Q D B 1844 (lvL B b i) [] τ) : lJ p l e s m b below meth c cells slots Q D B 689 (lvL B b i) [] σ := by
  obtain ⟨r, h1, h2⟩ := S_canPay I (xs (i + 1))
  refine nx_aload_n C.1 2 dL_law_689 rfl ?_
  refine nx_arg (k := 1) C 1 0 rfl rfl (by decide) (by omega) dL_law_690 dL_law_691 dL_law_693 dL_law_694 dL_law_695 ?_
  refine nx_cVi (C := RX5) (k := 0) (ci := 5) (n := 1) (As := [.int (xs (i + 1))]) (st := []) C.1 (mX5_canPay l D B (lC_inj C) (xs (i + 1)) σ h1) gL_law_X5_canPay rfl rfl rfl ndX5_canPay ⟨(Nat.le_of_ble_eq_true rfl), (Nat.le_of_ble_eq_true rfl)⟩ (by decide) rfl rfl rfl rfl (Nat.le_of_ble_eq_true rfl) rfl dL_law_696 ?_
  refine nx_aload_n C.1 3 dL_law_699 rfl ?_
  refine nx_arg (k := 1) C 1 0 rfl rfl (by decide) (by omega) dL_law_700 dL_law_701 dL_law_703 dL_law_704 dL_law_705 ?_
  refine nx_cVi (C := RX6) (k := 63) (ci := 6) (n := 1) (As := [.int (xs (i + 1))]) (st := [.int r]) C.1 (mX6_canPay l D B (lC_inj C) (xs (i + 1)) σ h2) gL_law_X6_canPay rfl rfl rfl ndX6_canPay ⟨(Nat.le_of_ble_eq_true rfl), (Nat.le_of_ble_eq_true rfl)⟩ (by decide) rfl rfl rfl rfl (Nat.le_of_ble_eq_true rfl) rfl dL_law_706 ?_
  exact nx_icmp_eq (tgt := 1844) C.1 dL_law_709 (by decide) (fun _ => K σ I) (fun z => absurd rfl z)
theorem lw_c14 (C : lC p s m b meth c cells slots D B L xs) (hi : i + 5 < L) (I : Inv σ) (K : ∀ τ, Inv τ → lJ p l e s m b below meth c cells slots Q D B 1844 (lvL B b i) [] τ) : lJ p l e s m b below meth c cells slots Q D B 714 (lvL B b i) [] σ := by
  obtain ⟨r, h1, h2⟩ := S_bestPayment I (xs (i + 1))
  refine nx_aload_n C.1 2 dL_law_714 rfl ?_
  refine nx_arg (k := 1) C 1 0 rfl rfl (by decide) (by omega) dL_law_715 dL_law_716 dL_law_718 dL_law_719 dL_law_720 ?_
  refine nx_cVi (C := RX5) (k := 0) (ci := 5) (n := 1) (As := [.int (xs (i + 1))]) (st := []) C.1 (mX5_bestPayment l D B (lC_inj C) (xs (i + 1)) σ h1) gL_law_X5_bestPayment rfl rfl rfl ndX5_bestPayment ⟨(Nat.le_of_ble_eq_true rfl), (Nat.le_of_ble_eq_true rfl)⟩ (by decide) rfl rfl rfl rfl (Nat.le_of_ble_eq_true rfl) rfl dL_law_721 ?_
  refine nx_aload_n C.1 3 dL_law_724 rfl ?_
  refine nx_arg (k := 1) C 1 0 rfl rfl (by decide) (by omega) dL_law_725 dL_law_726 dL_law_728 dL_law_729 dL_law_730 ?_
  refine nx_cVi (C := RX6) (k := 63) (ci := 6) (n := 1) (As := [.int (xs (i + 1))]) (st := [.int r]) C.1 (mX6_bestPayment l D B (lC_inj C) (xs (i + 1)) σ h2) gL_law_X6_bestPayment rfl rfl rfl ndX6_bestPayment ⟨(Nat.le_of_ble_eq_true rfl), (Nat.le_of_ble_eq_true rfl)⟩ (by decide) rfl rfl rfl rfl (Nat.le_of_ble_eq_true rfl) rfl dL_law_731 ?_
  exact nx_icmp_eq (tgt := 1844) C.1 dL_law_734 (by decide) (fun _ => K σ I) (fun z => absurd rfl z)
theorem lw_c15 (C : lC p s m b meth c cells slots D B L xs) (hi : i + 5 < L) (I : Inv σ) (K : ∀ τ, Inv τ → lJ p l e s m b below meth c cells slots Q D B 1844 (lvL B b i) [] τ) : lJ p l e s m b below meth c cells slots Q D B 739 (lvL B b i) [] σ := by
  obtain ⟨r, τ, υ, h1, h2, h3⟩ := S_hasThen I (xs (i + 1)) (xs (i + 2))
  refine nx_aload_n C.1 2 dL_law_739 rfl ?_
  refine nx_arg (k := 1) C 1 0 rfl rfl (by decide) (by omega) dL_law_740 dL_law_741 dL_law_743 dL_law_744 dL_law_745 ?_
  refine nx_arg (k := 2) C 1 0 rfl rfl (by decide) (by omega) dL_law_746 dL_law_747 dL_law_749 dL_law_750 dL_law_751 ?_
  refine nx_cVi (C := RX5) (k := 0) (ci := 5) (n := 2) (As := [.int (xs (i + 1)), .int (xs (i + 2))]) (st := []) C.1 (mX5_hasThen l D B (lC_inj C) (xs (i + 1)) (xs (i + 2)) σ h1) gL_law_X5_hasThen rfl rfl rfl ndX5_hasThen ⟨(Nat.le_of_ble_eq_true rfl), (Nat.le_of_ble_eq_true rfl)⟩ (by decide) rfl rfl rfl rfl (Nat.le_of_ble_eq_true rfl) rfl dL_law_752 ?_
  refine nx_aload_n C.1 3 dL_law_755 rfl ?_
  refine nx_arg (k := 1) C 1 0 rfl rfl (by decide) (by omega) dL_law_756 dL_law_757 dL_law_759 dL_law_760 dL_law_761 ?_
  refine nx_arg (k := 2) C 1 0 rfl rfl (by decide) (by omega) dL_law_762 dL_law_763 dL_law_765 dL_law_766 dL_law_767 ?_
  refine nx_cVi (C := RX6) (k := 63) (ci := 6) (n := 2) (As := [.int (xs (i + 1)), .int (xs (i + 2))]) (st := [.int r]) C.1 (mX6_hasThen l D B (lC_inj C) (xs (i + 1)) (xs (i + 2)) τ h2) gL_law_X6_hasThen rfl rfl rfl ndX6_hasThen ⟨(Nat.le_of_ble_eq_true rfl), (Nat.le_of_ble_eq_true rfl)⟩ (by decide) rfl rfl rfl rfl (Nat.le_of_ble_eq_true rfl) rfl dL_law_768 ?_
  exact nx_icmp_eq (tgt := 1844) C.1 dL_law_771 (by decide) (fun _ => K υ h3) (fun z => absurd rfl z)
theorem lw_c16 (C : lC p s m b meth c cells slots D B L xs) (hi : i + 5 < L) (I : Inv σ) (K : ∀ τ, Inv τ → lJ p l e s m b below meth c cells slots Q D B 1844 (lvL B b i) [] τ) : lJ p l e s m b below meth c cells slots Q D B 776 (lvL B b i) [] σ := by
  obtain ⟨r, τ, υ, h1, h2, h3⟩ := S_openThen I (xs (i + 1))
  refine nx_aload_n C.1 2 dL_law_776 rfl ?_
  refine nx_arg (k := 1) C 1 0 rfl rfl (by decide) (by omega) dL_law_777 dL_law_778 dL_law_780 dL_law_781 dL_law_782 ?_
  refine nx_cVi (C := RX5) (k := 0) (ci := 5) (n := 1) (As := [.int (xs (i + 1))]) (st := []) C.1 (mX5_openThen l D B (lC_inj C) (xs (i + 1)) σ h1) gL_law_X5_openThen rfl rfl rfl ndX5_openThen ⟨(Nat.le_of_ble_eq_true rfl), (Nat.le_of_ble_eq_true rfl)⟩ (by decide) rfl rfl rfl rfl (Nat.le_of_ble_eq_true rfl) rfl dL_law_783 ?_
  refine nx_aload_n C.1 3 dL_law_786 rfl ?_
  refine nx_arg (k := 1) C 1 0 rfl rfl (by decide) (by omega) dL_law_787 dL_law_788 dL_law_790 dL_law_791 dL_law_792 ?_
  refine nx_cVi (C := RX6) (k := 63) (ci := 6) (n := 1) (As := [.int (xs (i + 1))]) (st := [.int r]) C.1 (mX6_openThen l D B (lC_inj C) (xs (i + 1)) τ h2) gL_law_X6_openThen rfl rfl rfl ndX6_openThen ⟨(Nat.le_of_ble_eq_true rfl), (Nat.le_of_ble_eq_true rfl)⟩ (by decide) rfl rfl rfl rfl (Nat.le_of_ble_eq_true rfl) rfl dL_law_793 ?_
  exact nx_icmp_eq (tgt := 1844) C.1 dL_law_796 (by decide) (fun _ => K υ h3) (fun z => absurd rfl z)
theorem lw_c17 (C : lC p s m b meth c cells slots D B L xs) (hi : i + 5 < L) (I : Inv σ) (K : ∀ τ, Inv τ → lJ p l e s m b below meth c cells slots Q D B 1844 (lvL B b i) [] τ) : lJ p l e s m b below meth c cells slots Q D B 801 (lvL B b i) [] σ := by
  obtain ⟨r, τ, υ, h1, h2, h3⟩ := S_cleared I
  refine nx_aload_n C.1 2 dL_law_801 rfl ?_
  refine nx_cVi (C := RX5) (k := 0) (ci := 5) (n := 0) (As := []) (st := []) C.1 (mX5_cleared l D B (lC_inj C) σ h1) gL_law_X5_cleared rfl rfl rfl ndX5_cleared ⟨(Nat.le_of_ble_eq_true rfl), (Nat.le_of_ble_eq_true rfl)⟩ (by decide) rfl rfl rfl rfl (Nat.le_of_ble_eq_true rfl) rfl dL_law_802 ?_
  refine nx_aload_n C.1 3 dL_law_805 rfl ?_
  refine nx_cVi (C := RX6) (k := 63) (ci := 6) (n := 0) (As := []) (st := [.int r]) C.1 (mX6_cleared l D B (lC_inj C) τ h2) gL_law_X6_cleared rfl rfl rfl ndX6_cleared ⟨(Nat.le_of_ble_eq_true rfl), (Nat.le_of_ble_eq_true rfl)⟩ (by decide) rfl rfl rfl rfl (Nat.le_of_ble_eq_true rfl) rfl dL_law_806 ?_
  exact nx_icmp_eq (tgt := 1844) C.1 dL_law_809 (by decide) (fun _ => K υ h3) (fun z => absurd rfl z)
theorem lw_c18 (C : lC p s m b meth c cells slots D B L xs) (hi : i + 5 < L) (I : Inv σ) (K : ∀ τ, Inv τ → lJ p l e s m b below meth c cells slots Q D B 1844 (lvL B b i) [] τ) : lJ p l e s m b below meth c cells slots Q D B 814 (lvL B b i) [] σ := by
  obtain ⟨r, h1, h2⟩ := S_richest I
  refine nx_aload_n C.1 2 dL_law_814 rfl ?_
  refine nx_cVi (C := RX5) (k := 0) (ci := 5) (n := 0) (As := []) (st := []) C.1 (mX5_richest l D B (lC_inj C) σ h1) gL_law_X5_richest rfl rfl rfl ndX5_richest ⟨(Nat.le_of_ble_eq_true rfl), (Nat.le_of_ble_eq_true rfl)⟩ (by decide) rfl rfl rfl rfl (Nat.le_of_ble_eq_true rfl) rfl dL_law_815 ?_
  refine nx_aload_n C.1 3 dL_law_818 rfl ?_
  refine nx_cVi (C := RX6) (k := 63) (ci := 6) (n := 0) (As := []) (st := [.int r]) C.1 (mX6_richest l D B (lC_inj C) σ h2) gL_law_X6_richest rfl rfl rfl ndX6_richest ⟨(Nat.le_of_ble_eq_true rfl), (Nat.le_of_ble_eq_true rfl)⟩ (by decide) rfl rfl rfl rfl (Nat.le_of_ble_eq_true rfl) rfl dL_law_819 ?_
  exact nx_icmp_eq (tgt := 1844) C.1 dL_law_822 (by decide) (fun _ => K σ I) (fun z => absurd rfl z)
theorem lw_c19 (C : lC p s m b meth c cells slots D B L xs) (hi : i + 5 < L) (I : Inv σ) (K : ∀ τ, Inv τ → lJ p l e s m b below meth c cells slots Q D B 1844 (lvL B b i) [] τ) : lJ p l e s m b below meth c cells slots Q D B 827 (lvL B b i) [] σ := by
  obtain ⟨r, h1, h2⟩ := S_worst I (xs (i + 1))
  refine nx_aload_n C.1 2 dL_law_827 rfl ?_
  refine nx_arg (k := 1) C 1 0 rfl rfl (by decide) (by omega) dL_law_828 dL_law_829 dL_law_831 dL_law_832 dL_law_833 ?_
  refine nx_cVi (C := RX5) (k := 0) (ci := 5) (n := 1) (As := [.int (xs (i + 1))]) (st := []) C.1 (mX5_worst l D B (lC_inj C) (xs (i + 1)) σ h1) gL_law_X5_worst rfl rfl rfl ndX5_worst ⟨(Nat.le_of_ble_eq_true rfl), (Nat.le_of_ble_eq_true rfl)⟩ (by decide) rfl rfl rfl rfl (Nat.le_of_ble_eq_true rfl) rfl dL_law_834 ?_
  refine nx_aload_n C.1 3 dL_law_837 rfl ?_
  refine nx_arg (k := 1) C 1 0 rfl rfl (by decide) (by omega) dL_law_838 dL_law_839 dL_law_841 dL_law_842 dL_law_843 ?_
  refine nx_cVi (C := RX6) (k := 63) (ci := 6) (n := 1) (As := [.int (xs (i + 1))]) (st := [.int r]) C.1 (mX6_worst l D B (lC_inj C) (xs (i + 1)) σ h2) gL_law_X6_worst rfl rfl rfl ndX6_worst ⟨(Nat.le_of_ble_eq_true rfl), (Nat.le_of_ble_eq_true rfl)⟩ (by decide) rfl rfl rfl rfl (Nat.le_of_ble_eq_true rfl) rfl dL_law_844 ?_
  exact nx_icmp_eq (tgt := 1844) C.1 dL_law_847 (by decide) (fun _ => K σ I) (fun z => absurd rfl z)
end LW
