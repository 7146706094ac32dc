set_option maxRecDepth 100000 in
set_option maxHeartbeats 4000000 in
theorem b_M_solve_390_ok {p : Program} {l : Launch} {e : Env} {s : State} {m : MethodId} {args : Array Value} {below : List Frame} {meth : Method} {c : Code} {D : va_G} {cy : Nat → ClassId} {ad : Nat → Nat} (X : CX p s m args meth c cX12_solve RX12 10 none D shM cy ad (aw shM ad)) {F : Nat} {kc : St → Int → Int → Option (St)} {k412 : St → Option (St)} {q : St} (hkc : ∀ sg x2 x3, kc sg x2 x3 = some q → GG p l e rm_M_solve s m args below meth c (QV D shM cy ad below args s q) D shM cy ad (aw shM ad) 10 390 [(0, .ref (ad 0)), (2, mI x2), (3, mI x3)] [] sg) (hk412 : ∀ sg , k412 sg  = some q → GG p l e rm_M_solve s m args below meth c (QV D shM cy ad below args s q) D shM cy ad (aw shM ad) 10 412 [] [] sg) {sg : St} {x2 x3 : Int} (hf : b_M_solve_390  F kc k412 sg x2 x3 = some q) : GG p l e rm_M_solve s m args below meth c (QV D shM cy ad below args s q) D shM cy ad (aw shM ad) 10 390 [(0, .ref (ad 0)), (2, mI x2), (3, mI x3)] [] sg := by
  refine r_iload_n X 2 dX12_solve_390 rfl rfl ?_
  refine r_iload_n X 1 dX12_solve_391 rfl rfl ?_
  refine r_icmp_ge (tgt := 412) X dX12_solve_392 (by decide) (fun hc1 => ?_) (fun hc1 => ?_)
  · have hf := ite_yes hc1 hf
    refine r_perm (lv2 := []) [] rfl ?_
    exact hk412 _ hf
  · have hf := ite_no hc1 hf
    refine r_aload_n X 0 dX12_solve_395 rfl rfl ?_
    refine r_getR X fl_12_110 k_M_0_42 dX12_solve_396 ?_
    refine r_iload_n X 2 dX12_solve_399 rfl rfl ?_
    refine r_aload_n X 0 dX12_solve_400 rfl rfl ?_
    refine r_iload_n X 2 dX12_solve_401 rfl rfl ?_
    obtain ⟨q2, hq2, hf⟩ := bd_some hf
    refine r_callVL X (As := [mI x3]) (st := [mI x3, .ref (ad 31)]) (as := fun ad => [.ref (ad 0), mI x3]) (c_M_square hq2) rfl yw_X12_square yv_X12_square ml_RX12_277 o_M_0 rfl rfl ⟨rfl, rfl⟩ ⟨Nat.le_of_ble_eq_true rfl, Nat.le_of_ble_eq_true rfl⟩ rfl rfl (Nat.le_of_ble_eq_true rfl) dX12_solve_402 ?_
    obtain ⟨hg3, hf⟩ := gd_some hf
    refine r_last X a_M_31 hg3 dX12_solve_405 ?_
    refine r_iinc (lv2 := [(3, mI (x3 + 1)), (0, .ref (ad 0)), (2, mI x2)]) X 2 dX12_solve_406 rfl (by decide) rfl ?_
    refine r_goto (tgt := 390) X dX12_solve_409 (by decide) ?_
    refine r_perm (lv2 := [(0, .ref (ad 0)), (2, mI x2), (3, mI (x3 + 1))]) [1, 2, 0] rfl ?_
    exact hkc _ _ _ hf
set_option maxRecDepth 100000 in
set_option maxHeartbeats 4000000 in
theorem l_M_solve_390_ok {p : Program} {l : Launch} {e : Env} {s : State} {m : MethodId} {args : Array Value} {below : List Frame} {meth : Method} {c : Code} {D : va_G} {cy : Nat → ClassId} {ad : Nat → Nat} (X : CX p s m args meth c cX12_solve RX12 10 none D shM cy ad (aw shM ad)) {F : Nat} {k412 : St → Option (St)} {q : St} (hk412 : ∀ sg , k412 sg  = some q → GG p l e rm_M_solve s m args below meth c (QV D shM cy ad below args s q) D shM cy ad (aw shM ad) 10 412 [] [] sg) : ∀ (n : Nat) (sg : St) (x2 x3 : Int), l_M_solve_390  F k412 n sg x2 x3 = some q → GG p l e rm_M_solve s m args below meth c (QV D shM cy ad below args s q) D shM cy ad (aw shM ad) 10 390 [(0, .ref (ad 0)), (2, mI x2), (3, mI x3)] [] sg := by
  intro n
  induction n with
  | zero => intro sg x2 x3 h; cases h
  | succ n ih => exact fun sg x2 x3 h => b_M_solve_390_ok X ih hk412 h
set_option maxRecDepth 100000 in
set_option maxHeartbeats 4000000 in
theorem b_M_solve_346_ok {p : Program} {l : Launch} {e : Env} {s : State} {m : MethodId} {args : Array Value} {below : List Frame} {meth : Method} {c : Code} {D : va_G} {cy : Nat → ClassId} {ad : Nat → Nat} (X : CX p s m args meth c cX12_solve RX12 10 none D shM cy ad (aw shM ad)) {F : Nat} {kc : St → Int → Int → Option (St)} {k370 : St → Int → Option (St)} {q : St} (hkc : ∀ sg x2 x3, kc sg x2 x3 = some q → GG p l e rm_M_solve s m args below meth c (QV D shM cy ad below args s q) D shM cy ad (aw shM ad) 10 346 [(0, .ref (ad 0)), (2, mI x2), (3, mI x3)] [] sg) (hk370 : ∀ sg x2, k370 sg x2 = some q → GG p l e rm_M_solve s m args below meth c (QV D shM cy ad below args s q) D shM cy ad (aw shM ad) 10 370 [(0, .ref (ad 0)), (2, mI x2)] [] sg) {sg : St} {x2 x3 : Int} (hf : b_M_solve_346  F kc k370 sg x2 x3 = some q) : GG p l e rm_M_solve s m args below meth c (QV D shM cy ad below args s q) D shM cy ad (aw shM ad) 10 346 [(0, .ref (ad 0)), (2, mI x2), (3, mI x3)] [] sg := by
  refine r_iload_n X 2 dX12_solve_346 rfl rfl ?_
  refine r_iload_n X 1 dX12_solve_347 rfl rfl ?_
  refine r_icmp_ge (tgt := 370) X dX12_solve_348 (by decide) (fun hc1 => ?_) (fun hc1 => ?_)
  · have hf := ite_yes hc1 hf
    refine r_perm (lv2 := [(0, .ref (ad 0)), (2, mI x2)]) [0, 1] rfl ?_
    exact hk370 _ _ hf
  · have hf := ite_no hc1 hf
    refine r_aload_n X 0 dX12_solve_351 rfl rfl ?_
    refine r_getR X fl_12_103 k_M_0_40 dX12_solve_352 ?_
    refine r_iconst X dX12_solve_355 ?_
    refine r_iload_n X 1 dX12_solve_356 rfl rfl ?_
    refine r_iconst X dX12_solve_357 ?_
    refine r_isub X dX12_solve_358 ?_
    refine r_imul X dX12_solve_359 ?_
    refine r_iload_n X 2 dX12_solve_360 rfl rfl ?_
    refine r_iadd X dX12_solve_361 ?_
    refine r_lconst (v := 1) X dX12_solve_362 (by decide) ?_
    obtain ⟨hg2, hf⟩ := gd_some hf
    refine r_last X a_M_29 hg2 dX12_solve_363 ?_
    refine r_iinc (lv2 := [(3, mI (x3 + 1)), (0, .ref (ad 0)), (2, mI x2)]) X 2 dX12_solve_364 rfl (by decide) rfl ?_
    refine r_goto (tgt := 346) X dX12_solve_367 (by decide) ?_
    refine r_perm (lv2 := [(0, .ref (ad 0)), (2, mI x2), (3, mI (x3 + 1))]) [1, 2, 0] rfl ?_
    exact hkc _ _ _ hf
set_option maxRecDepth 100000 in
set_option maxHeartbeats 4000000 in
theorem l_M_solve_346_ok {p : Program} {l : Launch} {e : Env} {s : State} {m : MethodId} {args : Array Value} {below : List Frame} {meth : Method} {c : Code} {D : va_G} {cy : Nat → ClassId} {ad : Nat → Nat} (X : CX p s m args meth c cX12_solve RX12 10 none D shM cy ad (aw shM ad)) {F : Nat} {k370 : St → Int → Option (St)} {q : St} (hk370 : ∀ sg x2, k370 sg x2 = some q → GG p l e rm_M_solve s m args below meth c (QV D shM cy ad below args s q) D shM cy ad (aw shM ad) 10 370 [(0, .ref (ad 0)), (2, mI x2)] [] sg) : ∀ (n : Nat) (sg : St) (x2 x3 : Int), l_M_solve_346  F k370 n sg x2 x3 = some q → GG p l e rm_M_solve s m args below meth c (QV D shM cy ad below args s q) D shM cy ad (aw shM ad) 10 346 [(0, .ref (ad 0)), (2, mI x2), (3, mI x3)] [] sg := by
  intro n
  induction n with
  | zero => intro sg x2 x3 h; cases h
  | succ n ih => exact fun sg x2 x3 h => b_M_solve_346_ok X ih hk370 h
set_option maxRecDepth 100000 in
set_option maxHeartbeats 4000000 in
theorem b_M_solve_324_ok {p : Program} {l : Launch} {e : Env} {s : State} {m : MethodId} {args : Array Value} {below : List Frame} {meth : Method} {c : Code} {D : va_G} {cy : Nat → ClassId} {ad : Nat → Nat} (X : CX p s m args meth c cX12_solve RX12 10 none D shM cy ad (aw shM ad)) {F : Nat} {kc : St → Int → Int → Int → Int → Int → Int → Option (St)} {k332 : St → Int → Int → Int → Int → Int → Option (St)} {q : St} (hkc : ∀ sg x2 x3 x4 x5 x7 x9, kc sg x2 x3 x4 x5 x7 x9 = some q → GG p l e rm_M_solve s m args below meth c (QV D shM cy ad below args s q) D shM cy ad (aw shM ad) 10 275 [(0, .ref (ad 0)), (2, mI x2), (3, mI x3), (4, mI x4), (5, mL x5), (7, mI x7), (9, mI x9)] [] sg) (hk332 : ∀ sg x2 x3 x4 x5 x7, k332 sg x2 x3 x4 x5 x7 = some q → GG p l e rm_M_solve s m args below meth c (QV D shM cy ad below args s q) D shM cy ad (aw shM ad) 10 332 [(0, .ref (ad 0)), (2, mI x2), (3, mI x3), (4, mI x4), (5, mL x5), (7, mI x7)] [] sg) {sg : St} {x2 x3 x4 x5 x7 x9 z0 z1 z2 : Int} (hf : b_M_solve_324  F kc k332 sg x2 x3 x4 x5 x7 x9 z0 z1 z2 = some q) : GG p l e rm_M_solve s m args below meth c (QV D shM cy ad below args s q) D shM cy ad (aw shM ad) 10 324 [(0, .ref (ad 0)), (2, mI x2), (3, mI x3), (4, mI x4), (5, mL x5), (7, mI x7), (9, mI x9)] [mL z0, mL z1, mI z2, .ref (ad 29)] sg := by
  refine r_lsub X dX12_solve_324 ?_
  obtain ⟨hg1, hf⟩ := gd_some hf
  refine r_last X a_M_29 hg1 dX12_solve_325 ?_
  refine r_iinc (lv2 := [(9, mI (x9 + 1)), (0, .ref (ad 0)), (2, mI x2), (3, mI x3), (4, mI x4), (5, mL x5), (7, mI x7)]) X 6 dX12_solve_326 rfl (by decide) rfl ?_
  refine r_goto (tgt := 275) X dX12_solve_329 (by decide) ?_
  refine r_perm (lv2 := [(0, .ref (ad 0)), (2, mI x2), (3, mI x3), (4, mI x4), (5, mL x5), (7, mI x7), (9, mI (x9 + 1))]) [1, 2, 3, 4, 5, 6, 0] rfl ?_
  exact hkc _ _ _ _ _ _ _ hf
set_option maxRecDepth 100000 in
set_option maxHeartbeats 4000000 in
theorem b_M_solve_275_ok {p : Program} {l : Launch} {e : Env} {s : State} {m : MethodId} {args : Array Value} {below : List Frame} {meth : Method} {c : Code} {D : va_G} {cy : Nat → ClassId} {ad : Nat → Nat} (X : CX p s m args meth c cX12_solve RX12 10 none D shM cy ad (aw shM ad)) {F : Nat} {kc : St → Int → Int → Int → Int → Int → Int → Option (St)} {k332 : St → Int → Int → Int → Int → Int → Option (St)} {q : St} (hkc : ∀ sg x2 x3 x4 x5 x7 x9, kc sg x2 x3 x4 x5 x7 x9 = some q → GG p l e rm_M_solve s m args below meth c (QV D shM cy ad below args s q) D shM cy ad (aw shM ad) 10 275 [(0, .ref (ad 0)), (2, mI x2), (3, mI x3), (4, mI x4), (5, mL x5), (7, mI x7), (9, mI x9)] [] sg) (hk332 : ∀ sg x2 x3 x4 x5 x7, k332 sg x2 x3 x4 x5 x7 = some q → GG p l e rm_M_solve s m args below meth c (QV D shM cy ad below args s q) D shM cy ad (aw shM ad) 10 332 [(0, .ref (ad 0)), (2, mI x2), (3, mI x3), (4, mI x4), (5, mL x5), (7, mI x7)] [] sg) {sg : St} {x2 x3 x4 x5 x7 x9 : Int} (hf : b_M_solve_275  F kc k332 sg x2 x3 x4 x5 x7 x9 = some q) : GG p l e rm_M_solve s m args below meth c (QV D shM cy ad below args s q) D shM cy ad (aw shM ad) 10 275 [(0, .ref (ad 0)), (2, mI x2), (3, mI x3), (4, mI x4), (5, mL x5), (7, mI x7), (9, mI x9)] [] sg := by
  refine r_iload X 6 dX12_solve_275 rfl ?_
  refine r_iload_n X 1 dX12_solve_277 rfl rfl ?_
  refine r_icmp_ge (tgt := 332) X dX12_solve_278 (by decide) (fun hc1 => ?_) (fun hc1 => ?_)
  · have hf := ite_yes hc1 hf
    refine r_perm (lv2 := [(0, .ref (ad 0)), (2, mI x2), (3, mI x3), (4, mI x4), (5, mL x5), (7, mI x7)]) [0, 1, 2, 3, 4, 5] rfl ?_
    exact hk332 _ _ _ _ _ _ hf
  · have hf := ite_no hc1 hf
    refine r_aload_n X 0 dX12_solve_281 rfl rfl ?_
    refine r_getR X fl_12_103 k_M_0_40 dX12_solve_282 ?_
    refine r_iconst X dX12_solve_285 ?_
    refine r_iload X 5 dX12_solve_286 rfl ?_
    refine r_imul X dX12_solve_288 ?_
    refine r_iload X 6 dX12_solve_289 rfl ?_
    refine r_iadd X dX12_solve_291 ?_
    refine r_dup2 X dX12_solve_292 rfl rfl ?_
    obtain ⟨hg2, hf⟩ := gd_some hf
    refine r_lald X a_M_29 hg2 dX12_solve_293 ?_
    refine r_aload_n X 0 dX12_solve_294 rfl rfl ?_
    refine r_getR X fl_12_91 k_M_0_35 dX12_solve_295 ?_
    refine r_iload_n X 2 dX12_solve_298 rfl rfl ?_
    refine r_aload_n X 0 dX12_solve_299 rfl rfl ?_
    refine r_getR X fl_12_97 k_M_0_37 dX12_solve_300 ?_
    refine r_iload X 6 dX12_solve_303 rfl ?_
    obtain ⟨hg3, hf⟩ := gd_some hf
    refine r_iald X a_M_27 hg3 dX12_solve_305 ?_
    obtain ⟨q4, hq4, hf⟩ := bd_some hf
    refine r_callSI X (As := [mI x3, mI (sg 27 (ix x9))]) (st := [.ref (ad 25), mL (sg 29 (ix ((5 * x7) + x9))), mI ((5 * x7) + x9), .ref (ad 29)]) (as := fun ad => [mI x3, mI (sg 27 (ix x9))]) (c_M_at hq4) rfl yw_X12_at ys_X12_at ml_RX12_225 ⟨rfl, rfl⟩ ⟨Nat.le_of_ble_eq_true rfl, Nat.le_of_ble_eq_true rfl⟩ rfl rfl (Nat.le_of_ble_eq_true rfl) dX12_solve_306 ?_
    obtain ⟨hg5, hf⟩ := gd_some hf
    refine r_iald X a_M_25 hg5 dX12_solve_309 ?_
    refine r_if_lt (tgt := 323) X dX12_solve_310 (by decide) (fun hc6 => ?_) (fun hc6 => ?_)
    · have hf := ite_yes hc6 hf
      refine r_lconst (v := 0) X dX12_solve_323 (by decide) ?_
      exact b_M_solve_324_ok X hkc hk332 hf
    · have hf := ite_no hc6 hf
      refine r_ldc2 X cst_RX12_275 dX12_solve_313 ?_
      refine r_iload X 3 dX12_solve_316 rfl ?_
      refine r_i2l X dX12_solve_318 ?_
      obtain ⟨hg7, hf⟩ := gd_some hf
      refine r_ldiv X hg7 dX12_solve_319 ?_
      refine r_goto (tgt := 324) X dX12_solve_320 (by decide) ?_
      exact b_M_solve_324_ok X hkc hk332 hf
set_option maxRecDepth 100000 in
set_option maxHeartbeats 4000000 in
theorem l_M_solve_275_ok {p : Program} {l : Launch} {e : Env} {s : State} {m : MethodId} {args : Array Value} {below : List Frame} {meth : Method} {c : Code} {D : va_G} {cy : Nat → ClassId} {ad : Nat → Nat} (X : CX p s m args meth c cX12_solve RX12 10 none D shM cy ad (aw shM ad)) {F : Nat} {k332 : St → Int → Int → Int → Int → Int → Option (St)} {q : St} (hk332 : ∀ sg x2 x3 x4 x5 x7, k332 sg x2 x3 x4 x5 x7 = some q → GG p l e rm_M_solve s m args below meth c (QV D shM cy ad below args s q) D shM cy ad (aw shM ad) 10 332 [(0, .ref (ad 0)), (2, mI x2), (3, mI x3), (4, mI x4), (5, mL x5), (7, mI x7)] [] sg) : ∀ (n : Nat) (sg : St) (x2 x3 x4 x5 x7 x9 : Int), l_M_solve_275  F k332 n sg x2 x3 x4 x5 x7 x9 = some q → GG p l e rm_M_solve s m args below meth c (QV D shM cy ad below args s q) D shM cy ad (aw shM ad) 10 275 [(0, .ref (ad 0)), (2, mI x2), (3, mI x3), (4, mI x4), (5, mL x5), (7, mI x7), (9, mI x9)] [] sg := by
  intro n
  induction n with
  | zero => intro sg x2 x3 x4 x5 x7 x9 h; cases h
  | succ n ih => exact fun sg x2 x3 x4 x5 x7 x9 h => b_M_solve_275_ok X ih hk332 h
set_option maxRecDepth 100000 in
set_option maxHeartbeats 4000000 in
theorem b_M_solve_189_ok {p : Program} {l : Launch} {e : Env} {s : State} {m : MethodId} {args : Array Value} {below : List Frame} {meth : Method} {c : Code} {D : va_G} {cy : Nat → ClassId} {ad : Nat → Nat} (X : CX p s m args meth c cX12_solve RX12 10 none D shM cy ad (aw shM ad)) {F : Nat} {kc : St → Int → Int → Int → Int → Int → Option (St)} {k338 : St → Int → Int → Option (St)} {q : St} (hkc : ∀ sg x2 x3 x4 x5 x7, kc sg x2 x3 x4 x5 x7 = some q → GG p l e rm_M_solve s m args below meth c (QV D shM cy ad below args s q) D shM cy ad (aw shM ad) 10 189 [(0, .ref (ad 0)), (2, mI x2), (3, mI x3), (4, mI x4), (5, mL x5), (7, mI x7)] [] sg) (hk338 : ∀ sg x2 x3, k338 sg x2 x3 = some q → GG p l e rm_M_solve s m args below meth c (QV D shM cy ad below args s q) D shM cy ad (aw shM ad) 10 338 [(0, .ref (ad 0)), (2, mI x2), (3, mI x3)] [] sg) {sg : St} {x2 x3 x4 x5 x7 : Int} (hf : b_M_solve_189  F kc k338 sg x2 x3 x4 x5 x7 = some q) : GG p l e rm_M_solve s m args below meth c (QV D shM cy ad below args s q) D shM cy ad (aw shM ad) 10 189 [(0, .ref (ad 0)), (2, mI x2), (3, mI x3), (4, mI x4), (5, mL x5), (7, mI x7)] [] sg := by
  refine r_iload X 5 dX12_solve_189 rfl ?_
  refine r_iload_n X 1 dX12_solve_191 rfl rfl ?_
  refine r_icmp_ge (tgt := 338) X dX12_solve_192 (by decide) (fun hc1 => ?_) (fun hc1 => ?_)
  · have hf := ite_yes hc1 hf
    refine r_perm (lv2 := [(0, .ref (ad 0)), (2, mI x2), (3, mI x3)]) [0, 1, 2] rfl ?_
    exact hk338 _ _ _ hf
  · have hf := ite_no hc1 hf
    refine r_aload_n X 0 dX12_solve_195 rfl rfl ?_
    refine r_getR X fl_12_91 k_M_0_35 dX12_solve_196 ?_
    refine r_iload_n X 2 dX12_solve_199 rfl rfl ?_
    refine r_aload_n X 0 dX12_solve_200 rfl rfl ?_
    refine r_getR X fl_12_97 k_M_0_37 dX12_solve_201 ?_
    refine r_iload X 5 dX12_solve_204 rfl ?_
    obtain ⟨hg2, hf⟩ := gd_some hf
    refine r_iald X a_M_27 hg2 dX12_solve_206 ?_
    obtain ⟨q3, hq3, hf⟩ := bd_some hf
    refine r_callSI X (As := [mI x3, mI (sg 27 (ix x7))]) (st := [.ref (ad 25)]) (as := fun ad => [mI x3, mI (sg 27 (ix x7))]) (c_M_at hq3) rfl yw_X12_at ys_X12_at ml_RX12_225 ⟨rfl, rfl⟩ ⟨Nat.le_of_ble_eq_true rfl, Nat.le_of_ble_eq_true rfl⟩ rfl rfl (Nat.le_of_ble_eq_true rfl) dX12_solve_207 ?_
    obtain ⟨hg4, hf⟩ := gd_some hf
    refine r_iald X a_M_25 hg4 dX12_solve_210 ?_
    refine r_istore (lv2 := [(8, mI (q3.2 25 (ix q3.1))), (0, .ref (ad 0)), (2, mI x2), (3, mI x3), (4, mI x4), (5, mL x5), (7, mI x7)]) X dX12_solve_211 (by decide) rfl ?_
    refine r_iload X 0 dX12_solve_213 rfl ?_
    refine r_if_ge (tgt := 221) X dX12_solve_215 (by decide) (fun hc5 => ?_) (fun hc5 => ?_)
    · have hf := ite_yes hc5 hf
      refine r_aload_n X 1 dX12_solve_221 rfl rfl ?_
      refine r_getR X fl_12_103 k_M_0_40 dX12_solve_222 ?_
      refine r_iconst X dX12_solve_225 ?_
      refine r_iload X 6 dX12_solve_226 rfl ?_
      refine r_imul X dX12_solve_228 ?_
      refine r_iload X 6 dX12_solve_229 rfl ?_
      refine r_iadd X dX12_solve_231 ?_
      refine r_dup2 X dX12_solve_232 rfl rfl ?_
      obtain ⟨hg6, hf⟩ := gd_some hf
      refine r_lald X a_M_29 hg6 dX12_solve_233 ?_
      refine r_ldc2 X cst_RX12_275 dX12_solve_234 ?_
      refine r_ladd X dX12_solve_237 ?_
      obtain ⟨hg7, hf⟩ := gd_some hf
      refine r_last X a_M_29 hg7 dX12_solve_238 ?_
      refine r_aload_n X 1 dX12_solve_239 rfl rfl ?_
      refine r_getR X fl_12_107 k_M_0_41 dX12_solve_240 ?_
      refine r_iload X 6 dX12_solve_243 rfl ?_
      refine r_dup2 X dX12_solve_245 rfl rfl ?_
      obtain ⟨hg9, hf⟩ := gd_some hf
      refine r_lald X a_M_30 hg9 dX12_solve_246 ?_
      refine r_ldc2 X cst_RX12_275 dX12_solve_247 ?_
      refine r_aload_n X 1 dX12_solve_250 rfl rfl ?_
      refine r_getR X fl_12_82 k_M_0_32 dX12_solve_251 ?_
      refine r_iload X 0 dX12_solve_254 rfl ?_
      obtain ⟨hg10, hf⟩ := gd_some hf
      refine r_iald X a_M_22 hg10 dX12_solve_256 ?_
      refine r_i2l X dX12_solve_257 ?_
      refine r_lmul X dX12_solve_258 ?_
      refine r_ldc2 X cst_RX12_275 dX12_solve_259 ?_
      refine r_iload X 4 dX12_solve_262 rfl ?_
      refine r_i2l X dX12_solve_264 ?_
      obtain ⟨hg11, hf⟩ := gd_some hf
      refine r_ldiv X hg11 dX12_solve_265 ?_
      refine r_lload X 5 dX12_solve_266 rfl ?_
      refine r_lmul X dX12_solve_268 ?_
      refine r_lsub X dX12_solve_269 ?_
      refine r_ladd X dX12_solve_270 ?_
      obtain ⟨hg12, hf⟩ := gd_some hf
      refine r_last X a_M_30 hg12 dX12_solve_271 ?_
      refine r_iconst X dX12_solve_272 ?_
      refine r_istore (lv2 := [(9, mI 0), (8, mI (q3.2 25 (ix q3.1))), (0, .ref (ad 0)), (2, mI x2), (3, mI x3), (4, mI x4), (5, mL x5), (7, mI x7)]) X dX12_solve_273 (by decide) rfl ?_
      refine r_perm (lv2 := [(0, .ref (ad 0)), (2, mI x2), (3, mI x3), (4, mI x4), (5, mL x5), (7, mI x7), (9, mI 0)]) [2, 3, 4, 5, 6, 7, 0] rfl ?_
      refine l_M_solve_275_ok X ?_ F _ _ _ _ _ _ _ hf
      · intro s14 x2_15 x3_16 x4_17 x5_18 x7_19 hf
        refine r_iinc (lv2 := [(7, mI (x7_19 + 1)), (0, .ref (ad 0)), (2, mI x2_15), (3, mI x3_16), (4, mI x4_17), (5, mL x5_18)]) X 5 dX12_solve_332 rfl (by decide) rfl ?_
        refine r_goto (tgt := 189) X dX12_solve_335 (by decide) ?_
        refine r_perm (lv2 := [(0, .ref (ad 0)), (2, mI x2_15), (3, mI x3_16), (4, mI x4_17), (5, mL x5_18), (7, mI (x7_19 + 1))]) [1, 2, 3, 4, 5, 0] rfl ?_
        exact hkc _ _ _ _ _ _ hf
    · have hf := ite_no hc5 hf
      refine r_goto (tgt := 332) X dX12_solve_218 (by decide) ?_
      refine r_iinc (lv2 := [(7, mI (x7 + 1)), (8, mI (q3.2 25 (ix q3.1))), (0, .ref (ad 0)), (2, mI x2), (3, mI x3), (4, mI x4), (5, mL x5)]) X 6 dX12_solve_332 rfl (by decide) rfl ?_
      refine r_goto (tgt := 189) X dX12_solve_335 (by decide) ?_
      refine r_perm (lv2 := [(0, .ref (ad 0)), (2, mI x2), (3, mI x3), (4, mI x4), (5, mL x5), (7, mI (x7 + 1))]) [2, 3, 4, 5, 6, 0] rfl ?_
      exact hkc _ _ _ _ _ _ hf
set_option maxRecDepth 100000 in
set_option maxHeartbeats 4000000 in
theorem l_M_solve_189_ok {p : Program} {l : Launch} {e : Env} {s : State} {m : MethodId} {args : Array Value} {below : List Frame} {meth : Method} {c : Code} {D : va_G} {cy : Nat → ClassId} {ad : Nat → Nat} (X : CX p s m args meth c cX12_solve RX12 10 none D shM cy ad (aw shM ad)) {F : Nat} {k338 : St → Int → Int → Option (St)} {q : St} (hk338 : ∀ sg x2 x3, k338 sg x2 x3 = some q → GG p l e rm_M_solve s m args below meth c (QV D shM cy ad below args s q) D shM cy ad (aw shM ad) 10 338 [(0, .ref (ad 0)), (2, mI x2), (3, mI x3)] [] sg) : ∀ (n : Nat) (sg : St) (x2 x3 x4 x5 x7 : Int), l_M_solve_189  F k338 n sg x2 x3 x4 x5 x7 = some q → GG p l e rm_M_solve s m args below meth c (QV D shM cy ad below args s q) D shM cy ad (aw shM ad) 10 189 [(0, .ref (ad 0)), (2, mI x2), (3, mI x3), (4, mI x4), (5, mL x5), (7, mI x7)] [] sg := by
  intro n
  induction n with
  | zero => intro sg x2 x3 x4 x5 x7 h; cases h
  | succ n ih => exact fun sg x2 x3 x4 x5 x7 h => b_M_solve_189_ok X ih hk338 h
set_option maxRecDepth 100000 in
set_option maxHeartbeats 4000000 in
theorem b_M_solve_131_ok {p : Program} {l : Launch} {e : Env} {s : State} {m : MethodId} {args : Array Value} {below : List Frame} {meth : Method} {c : Code} {D : va_G} {cy : Nat → ClassId} {ad : Nat → Nat} (X : CX p s m args meth c cX12_solve RX12 10 none D shM cy ad (aw shM ad)) {F : Nat} {kc : St → Int → Int → Int → Int → Int → Option (St)} {k186 : St → Int → Int → Int → Int → Option (St)} {q : St} (hkc : ∀ sg x2 x3 x4 x5 x7, kc sg x2 x3 x4 x5 x7 = some q → GG p l e rm_M_solve s m args below meth c (QV D shM cy ad below args s q) D shM cy ad (aw shM ad) 10 131 [(0, .ref (ad 0)), (2, mI x2), (3, mI x3), (4, mI x4), (5, mL x5), (7, mI x7)] [] sg) (hk186 : ∀ sg x2 x3 x4 x5, k186 sg x2 x3 x4 x5 = some q → GG p l e rm_M_solve s m args below meth c (QV D shM cy ad below args s q) D shM cy ad (aw shM ad) 10 186 [(0, .ref (ad 0)), (2, mI x2), (3, mI x3), (4, mI x4), (5, mL x5)] [] sg) {sg : St} {x2 x3 x4 x5 x7 : Int} (hf : b_M_solve_131  F kc k186 sg x2 x3 x4 x5 x7 = some q) : GG p l e rm_M_solve s m args below meth c (QV D shM cy ad below args s q) D shM cy ad (aw shM ad) 10 131 [(0, .ref (ad 0)), (2, mI x2), (3, mI x3), (4, mI x4), (5, mL x5), (7, mI x7)] [] sg := by
  refine r_iload X 5 dX12_solve_131 rfl ?_
  refine r_aload_n X 0 dX12_solve_133 rfl rfl ?_
  refine r_getI X fl_12_208 k_M_0_5 dX12_solve_134 ?_
  refine r_icmp_ge (tgt := 186) X dX12_solve_137 (by decide) (fun hc1 => ?_) (fun hc1 => ?_)
  · have hf := ite_yes hc1 hf
    refine r_perm (lv2 := [(0, .ref (ad 0)), (2, mI x2), (3, mI x3), (4, mI x4), (5, mL x5)]) [0, 1, 2, 3, 4] rfl ?_
    exact hk186 _ _ _ _ _ hf
  · have hf := ite_no hc1 hf
    refine r_lload X 4 dX12_solve_140 rfl ?_
    refine r_aload_n X 0 dX12_solve_142 rfl rfl ?_
    refine r_getR X fl_12_91 k_M_0_35 dX12_solve_143 ?_
    refine r_iload_n X 2 dX12_solve_146 rfl rfl ?_
    refine r_iload X 5 dX12_solve_147 rfl ?_
    obtain ⟨q2, hq2, hf⟩ := bd_some hf
    refine r_callSI X (As := [mI x3, mI x7]) (st := [.ref (ad 25), mL x5]) (as := fun ad => [mI x3, mI x7]) (c_M_at hq2) rfl yw_X12_at ys_X12_at ml_RX12_225 ⟨rfl, rfl⟩ ⟨Nat.le_of_ble_eq_true rfl, Nat.le_of_ble_eq_true rfl⟩ rfl rfl (Nat.le_of_ble_eq_true rfl) dX12_solve_149 ?_
    obtain ⟨hg3, hf⟩ := gd_some hf
    refine r_iald X a_M_25 hg3 dX12_solve_152 ?_
    refine r_if_lt (tgt := 176) X dX12_solve_153 (by decide) (fun hc4 => ?_) (fun hc4 => ?_)
    · have hf := ite_yes hc4 hf
      refine r_lconst (v := 0) X dX12_solve_176 (by decide) ?_
      refine r_ladd X dX12_solve_177 ?_
      refine r_lstore (lv2 := [(5, mL (x5 + 0)), (0, .ref (ad 0)), (2, mI x2), (3, mI x3), (4, mI x4), (7, mI x7)]) X dX12_solve_178 (by decide) rfl ?_
      refine r_iinc (lv2 := [(7, mI (x7 + 1)), (5, mL (x5 + 0)), (0, .ref (ad 0)), (2, mI x2), (3, mI x3), (4, mI x4)]) X 5 dX12_solve_180 rfl (by decide) rfl ?_
      refine r_goto (tgt := 131) X dX12_solve_183 (by decide) ?_
      refine r_perm (lv2 := [(0, .ref (ad 0)), (2, mI x2), (3, mI x3), (4, mI x4), (5, mL (x5 + 0)), (7, mI (x7 + 1))]) [2, 3, 4, 5, 1, 0] rfl ?_
      exact hkc _ _ _ _ _ _ hf
    · have hf := ite_no hc4 hf
      refine r_aload_n X 0 dX12_solve_156 rfl rfl ?_
      refine r_getR X fl_12_82 k_M_0_32 dX12_solve_157 ?_
      refine r_aload_n X 0 dX12_solve_160 rfl rfl ?_
      refine r_getR X fl_12_91 k_M_0_35 dX12_solve_161 ?_
      refine r_iload_n X 2 dX12_solve_164 rfl rfl ?_
      refine r_iload X 5 dX12_solve_165 rfl ?_
      obtain ⟨q5, hq5, hf⟩ := bd_some hf
      refine r_callSI X (As := [mI x3, mI x7]) (st := [.ref (ad 25), .ref (ad 22), mL x5]) (as := fun ad => [mI x3, mI x7]) (c_M_at hq5) rfl yw_X12_at ys_X12_at ml_RX12_225 ⟨rfl, rfl⟩ ⟨Nat.le_of_ble_eq_true rfl, Nat.le_of_ble_eq_true rfl⟩ rfl rfl (Nat.le_of_ble_eq_true rfl) dX12_solve_167 ?_
      obtain ⟨hg6, hf⟩ := gd_some hf
      refine r_iald X a_M_25 hg6 dX12_solve_170 ?_
      obtain ⟨hg7, hf⟩ := gd_some hf
      refine r_iald X a_M_22 hg7 dX12_solve_171 ?_
      refine r_i2l X dX12_solve_172 ?_
      refine r_goto (tgt := 177) X dX12_solve_173 (by decide) ?_
      refine r_ladd X dX12_solve_177 ?_
      refine r_lstore (lv2 := [(5, mL (x5 + (w32 (q5.2 22 (ix (q5.2 25 (ix q5.1))))))), (0, .ref (ad 0)), (2, mI x2), (3, mI x3), (4, mI x4), (7, mI x7)]) X dX12_solve_178 (by decide) rfl ?_
      refine r_iinc (lv2 := [(7, mI (x7 + 1)), (5, mL (x5 + (w32 (q5.2 22 (ix (q5.2 25 (ix q5.1))))))), (0, .ref (ad 0)), (2, mI x2), (3, mI x3), (4, mI x4)]) X 5 dX12_solve_180 rfl (by decide) rfl ?_
      refine r_goto (tgt := 131) X dX12_solve_183 (by decide) ?_
      refine r_perm (lv2 := [(0, .ref (ad 0)), (2, mI x2), (3, mI x3), (4, mI x4), (5, mL (x5 + (w32 (q5.2 22 (ix (q5.2 25 (ix q5.1))))))), (7, mI (x7 + 1))]) [2, 3, 4, 5, 1, 0] rfl ?_
      exact hkc _ _ _ _ _ _ hf
set_option maxRecDepth 100000 in
set_option maxHeartbeats 4000000 in
theorem l_M_solve_131_ok {p : Program} {l : Launch} {e : Env} {s : State} {m : MethodId} {args : Array Value} {below : List Frame} {meth : Method} {c : Code} {D : va_G} {cy : Nat → ClassId} {ad : Nat → Nat} (X : CX p s m args meth c cX12_solve RX12 10 none D shM cy ad (aw shM ad)) {F : Nat} {k186 : St → Int → Int → Int → Int → Option (St)} {q : St} (hk186 : ∀ sg x2 x3 x4 x5, k186 sg x2 x3 x4 x5 = some q → GG p l e rm_M_solve s m args below meth c (QV D shM cy ad below args s q) D shM cy ad (aw shM ad) 10 186 [(0, .ref (ad 0)), (2, mI x2), (3, mI x3), (4, mI x4), (5, mL x5)] [] sg) : ∀ (n : Nat) (sg : St) (x2 x3 x4 x5 x7 : Int), l_M_solve_131  F k186 n sg x2 x3 x4 x5 x7 = some q → GG p l e rm_M_solve s m args below meth c (QV D shM cy ad below args s q) D shM cy ad (aw shM ad) 10 131 [(0, .ref (ad 0)), (2, mI x2), (3, mI x3), (4, mI x4), (5, mL x5), (7, mI x7)] [] sg := by
  intro n
  induction n with
  | zero => intro sg x2 x3 x4 x5 x7 h; cases h
  | succ n ih => exact fun sg x2 x3 x4 x5 x7 h => b_M_solve_131_ok X ih hk186 h
set_option maxRecDepth 100000 in
set_option maxHeartbeats 4000000 in
theorem b_M_solve_102_ok {p : Program} {l : Launch} {e : Env} {s : State} {m : MethodId} {args : Array Value} {below : List Frame} {meth : Method} {c : Code} {D : va_G} {cy : Nat → ClassId} {ad : Nat → Nat} (X : CX p s m args meth c cX12_solve RX12 10 none D shM cy ad (aw shM ad)) {F : Nat} {kc : St → Int → Int → Option (St)} {k344 : St → Int → Option (St)} {q : St} (hkc : ∀ sg x2 x3, kc sg x2 x3 = some q → GG p l e rm_M_solve s m args below meth c (QV D shM cy ad below args s q) D shM cy ad (aw shM ad) 10 102 [(0, .ref (ad 0)), (2, mI x2), (3, mI x3)] [] sg) (hk344 : ∀ sg x2, k344 sg x2 = some q → GG p l e rm_M_solve s m args below meth c (QV D shM cy ad below args s q) D shM cy ad (aw shM ad) 10 344 [(0, .ref (ad 0)), (2, mI x2)] [] sg) {sg : St} {x2 x3 : Int} (hf : b_M_solve_102  F kc k344 sg x2 x3 = some q) : GG p l e rm_M_solve s m args below meth c (QV D shM cy ad below args s q) D shM cy ad (aw shM ad) 10 102 [(0, .ref (ad 0)), (2, mI x2), (3, mI x3)] [] sg := by
  refine r_iload_n X 2 dX12_solve_102 rfl rfl ?_
  refine r_aload_n X 0 dX12_solve_103 rfl rfl ?_
  refine r_getI X fl_12_205 k_M_0_4 dX12_solve_104 ?_
  refine r_icmp_ge (tgt := 344) X dX12_solve_107 (by decide) (fun hc1 => ?_) (fun hc1 => ?_)
  · have hf := ite_yes hc1 hf
    refine r_perm (lv2 := [(0, .ref (ad 0)), (2, mI x2)]) [0, 1] rfl ?_
    exact hk344 _ _ hf
  · have hf := ite_no hc1 hf
    refine r_aload_n X 0 dX12_solve_110 rfl rfl ?_
    refine r_iload_n X 2 dX12_solve_111 rfl rfl ?_
    obtain ⟨q2, hq2, hf⟩ := bd_some hf
    refine r_callVI X (As := [mI x3]) (st := []) (as := fun ad => [.ref (ad 0), mI x3]) (c_M_countOf hq2) rfl yw_X12_countOf yv_X12_countOf ml_RX12_267 o_M_0 rfl rfl ⟨rfl, rfl⟩ ⟨Nat.le_of_ble_eq_true rfl, Nat.le_of_ble_eq_true rfl⟩ rfl rfl (Nat.le_of_ble_eq_true rfl) dX12_solve_112 ?_
    refine r_istore (lv2 := [(4, mI q2.1), (0, .ref (ad 0)), (2, mI x2), (3, mI x3)]) X dX12_solve_115 (by decide) rfl ?_
    refine r_iload X 0 dX12_solve_117 rfl ?_
    refine r_if_ne (tgt := 125) X dX12_solve_119 (by decide) (fun hc3 => ?_) (fun hc3 => ?_)
    · have hf := ite_yes hc3 hf
      refine r_goto (tgt := 338) X dX12_solve_122 (by decide) ?_
      refine r_iinc (lv2 := [(3, mI (x3 + 1)), (4, mI q2.1), (0, .ref (ad 0)), (2, mI x2)]) X 3 dX12_solve_338 rfl (by decide) rfl ?_
      refine r_goto (tgt := 102) X dX12_solve_341 (by decide) ?_
      refine r_perm (lv2 := [(0, .ref (ad 0)), (2, mI x2), (3, mI (x3 + 1))]) [2, 3, 0] rfl ?_
      exact hkc _ _ _ hf
    · have hf := ite_no hc3 hf
      refine r_lconst (v := 0) X dX12_solve_125 (by decide) ?_
      refine r_lstore (lv2 := [(5, mL 0), (4, mI q2.1), (0, .ref (ad 0)), (2, mI x2), (3, mI x3)]) X dX12_solve_126 (by decide) rfl ?_
      refine r_iconst X dX12_solve_128 ?_
      refine r_istore (lv2 := [(7, mI 0), (5, mL 0), (4, mI q2.1), (0, .ref (ad 0)), (2, mI x2), (3, mI x3)]) X dX12_solve_129 (by decide) rfl ?_
      refine r_perm (lv2 := [(0, .ref (ad 0)), (2, mI x2), (3, mI x3), (4, mI q2.1), (5, mL 0), (7, mI 0)]) [3, 4, 5, 2, 1, 0] rfl ?_
      refine l_M_solve_131_ok X ?_ F _ _ _ _ _ _ hf
      · intro s4 x2_5 x3_6 x4_7 x5_8 hf
        refine r_iconst X dX12_solve_186 ?_
        refine r_istore (lv2 := [(7, mI 0), (0, .ref (ad 0)), (2, mI x2_5), (3, mI x3_6), (4, mI x4_7), (5, mL x5_8)]) X dX12_solve_187 (by decide) rfl ?_
        refine r_perm (lv2 := [(0, .ref (ad 0)), (2, mI x2_5), (3, mI x3_6), (4, mI x4_7), (5, mL x5_8), (7, mI 0)]) [1, 2, 3, 4, 5, 0] rfl ?_
        refine l_M_solve_189_ok X ?_ F _ _ _ _ _ _ hf
        · intro s9 x2_10 x3_11 hf
          refine r_iinc (lv2 := [(3, mI (x3_11 + 1)), (0, .ref (ad 0)), (2, mI x2_10)]) X 2 dX12_solve_338 rfl (by decide) rfl ?_
          refine r_goto (tgt := 102) X dX12_solve_341 (by decide) ?_
          refine r_perm (lv2 := [(0, .ref (ad 0)), (2, mI x2_10), (3, mI (x3_11 + 1))]) [1, 2, 0] rfl ?_
          exact hkc _ _ _ hf
set_option maxRecDepth 100000 in
set_option maxHeartbeats 4000000 in
theorem l_M_solve_102_ok {p : Program} {l : Launch} {e : Env} {s : State} {m : MethodId} {args : Array Value} {below : List Frame} {meth : Method} {c : Code} {D : va_G} {cy : Nat → ClassId} {ad : Nat → Nat} (X : CX p s m args meth c cX12_solve RX12 10 none D shM cy ad (aw shM ad)) {F : Nat} {k344 : St → Int → Option (St)} {q : St} (hk344 : ∀ sg x2, k344 sg x2 = some q → GG p l e rm_M_solve s m args below meth c (QV D shM cy ad below args s q) D shM cy ad (aw shM ad) 10 344 [(0, .ref (ad 0)), (2, mI x2)] [] sg) : ∀ (n : Nat) (sg : St) (x2 x3 : Int), l_M_solve_102  F k344 n sg x2 x3 = some q → GG p l e rm_M_solve s m args below meth c (QV D shM cy ad below args s q) D shM cy ad (aw shM ad) 10 102 [(0, .ref (ad 0)), (2, mI x2), (3, mI x3)] [] sg := by
  intro n
  induction n with
  | zero => intro sg x2 x3 h; cases h
  | succ n ih => exact fun sg x2 x3 h => b_M_solve_102_ok X ih hk344 h
set_option maxRecDepth 100000 in
set_option maxHeartbeats 4000000 in
theorem b_M_solve_82_ok {p : Program} {l : Launch} {e : Env} {s : State} {m : MethodId} {args : Array Value} {below : List Frame} {meth : Method} {c : Code} {D : va_G} {cy : Nat → ClassId} {ad : Nat → Nat} (X : CX p s m args meth c cX12_solve RX12 10 none D shM cy ad (aw shM ad)) {F : Nat} {kc : St → Int → Int → Option (St)} {k100 : St → Int → Option (St)} {q : St} (hkc : ∀ sg x2 x3, kc sg x2 x3 = some q → GG p l e rm_M_solve s m args below meth c (QV D shM cy ad below args s q) D shM cy ad (aw shM ad) 10 82 [(0, .ref (ad 0)), (2, mI x2), (3, mI x3)] [] sg) (hk100 : ∀ sg x2, k100 sg x2 = some q → GG p l e rm_M_solve s m args below meth c (QV D shM cy ad below args s q) D shM cy ad (aw shM ad) 10 100 [(0, .ref (ad 0)), (2, mI x2)] [] sg) {sg : St} {x2 x3 : Int} (hf : b_M_solve_82  F kc k100 sg x2 x3 = some q) : GG p l e rm_M_solve s m args below meth c (QV D shM cy ad below args s q) D shM cy ad (aw shM ad) 10 82 [(0, .ref (ad 0)), (2, mI x2), (3, mI x3)] [] sg := by
  refine r_iload_n X 2 dX12_solve_82 rfl rfl ?_
  refine r_iload_n X 1 dX12_solve_83 rfl rfl ?_
  refine r_icmp_ge (tgt := 100) X dX12_solve_84 (by decide) (fun hc1 => ?_) (fun hc1 => ?_)
  · have hf := ite_yes hc1 hf
    refine r_perm (lv2 := [(0, .ref (ad 0)), (2, mI x2)]) [0, 1] rfl ?_
    exact hk100 _ _ hf
  · have hf := ite_no hc1 hf
    refine r_aload_n X 0 dX12_solve_87 rfl rfl ?_
    refine r_getR X fl_12_107 k_M_0_41 dX12_solve_88 ?_
    refine r_iload_n X 2 dX12_solve_91 rfl rfl ?_
    refine r_lconst (v := 0) X dX12_solve_92 (by decide) ?_
    obtain ⟨hg2, hf⟩ := gd_some hf
    refine r_last X a_M_30 hg2 dX12_solve_93 ?_
    refine r_iinc (lv2 := [(3, mI (x3 + 1)), (0, .ref (ad 0)), (2, mI x2)]) X 2 dX12_solve_94 rfl (by decide) rfl ?_
    refine r_goto (tgt := 82) X dX12_solve_97 (by decide) ?_
    refine r_perm (lv2 := [(0, .ref (ad 0)), (2, mI x2), (3, mI (x3 + 1))]) [1, 2, 0] rfl ?_
    exact hkc _ _ _ hf
set_option maxRecDepth 100000 in
set_option maxHeartbeats 4000000 in
theorem l_M_solve_82_ok {p : Program} {l : Launch} {e : Env} {s : State} {m : MethodId} {args : Array Value} {below : List Frame} {meth : Method} {c : Code} {D : va_G} {cy : Nat → ClassId} {ad : Nat → Nat} (X : CX p s m args meth c cX12_solve RX12 10 none D shM cy ad (aw shM ad)) {F : Nat} {k100 : St → Int → Option (St)} {q : St} (hk100 : ∀ sg x2, k100 sg x2 = some q → GG p l e rm_M_solve s m args below meth c (QV D shM cy ad below args s q) D shM cy ad (aw shM ad) 10 100 [(0, .ref (ad 0)), (2, mI x2)] [] sg) : ∀ (n : Nat) (sg : St) (x2 x3 : Int), l_M_solve_82  F k100 n sg x2 x3 = some q → GG p l e rm_M_solve s m args below meth c (QV D shM cy ad below args s q) D shM cy ad (aw shM ad) 10 82 [(0, .ref (ad 0)), (2, mI x2), (3, mI x3)] [] sg := by
  intro n
  induction n with
  | zero => intro sg x2 x3 h; cases h
  | succ n ih => exact fun sg x2 x3 h => b_M_solve_82_ok X ih hk100 h
set_option maxRecDepth 100000 in
set_option maxHeartbeats 4000000 in
theorem b_M_solve_61_ok {p : Program} {l : Launch} {e : Env} {s : State} {m : MethodId} {args : Array Value} {below : List Frame} {meth : Method} {c : Code} {D : va_G} {cy : Nat → ClassId} {ad : Nat → Nat} (X : CX p s m args meth c cX12_solve RX12 10 none D shM cy ad (aw shM ad)) {F : Nat} {kc : St → Int → Int → Option (St)} {k80 : St → Int → Option (St)} {q : St} (hkc : ∀ sg x2 x3, kc sg x2 x3 = some q → GG p l e rm_M_solve s m args below meth c (QV D shM cy ad below args s q) D shM cy ad (aw shM ad) 10 61 [(0, .ref (ad 0)), (2, mI x2), (3, mI x3)] [] sg) (hk80 : ∀ sg x2, k80 sg x2 = some q → GG p l e rm_M_solve s m args below meth c (QV D shM cy ad below args s q) D shM cy ad (aw shM ad) 10 80 [(0, .ref (ad 0)), (2, mI x2)] [] sg) {sg : St} {x2 x3 : Int} (hf : b_M_solve_61  F kc k80 sg x2 x3 = some q) : GG p l e rm_M_solve s m args below meth c (QV D shM cy ad below args s q) D shM cy ad (aw shM ad) 10 61 [(0, .ref (ad 0)), (2, mI x2), (3, mI x3)] [] sg := by
  refine r_iload_n X 2 dX12_solve_61 rfl rfl ?_
  refine r_bipush X dX12_solve_62 (by decide) ?_
  refine r_icmp_ge (tgt := 80) X dX12_solve_64 (by decide) (fun hc1 => ?_) (fun hc1 => ?_)
  · have hf := ite_yes hc1 hf
    refine r_perm (lv2 := [(0, .ref (ad 0)), (2, mI x2)]) [0, 1] rfl ?_
    exact hk80 _ _ hf
  · have hf := ite_no hc1 hf
    refine r_aload_n X 0 dX12_solve_67 rfl rfl ?_
    refine r_getR X fl_12_103 k_M_0_40 dX12_solve_68 ?_
    refine r_iload_n X 2 dX12_solve_71 rfl rfl ?_
    refine r_lconst (v := 0) X dX12_solve_72 (by decide) ?_
    obtain ⟨hg2, hf⟩ := gd_some hf
    refine r_last X a_M_29 hg2 dX12_solve_73 ?_
    refine r_iinc (lv2 := [(3, mI (x3 + 1)), (0, .ref (ad 0)), (2, mI x2)]) X 2 dX12_solve_74 rfl (by decide) rfl ?_
    refine r_goto (tgt := 61) X dX12_solve_77 (by decide) ?_
    refine r_perm (lv2 := [(0, .ref (ad 0)), (2, mI x2), (3, mI (x3 + 1))]) [1, 2, 0] rfl ?_
    exact hkc _ _ _ hf
set_option maxRecDepth 100000 in
set_option maxHeartbeats 4000000 in
theorem l_M_solve_61_ok {p : Program} {l : Launch} {e : Env} {s : State} {m : MethodId} {args : Array Value} {below : List Frame} {meth : Method} {c : Code} {D : va_G} {cy : Nat → ClassId} {ad : Nat → Nat} (X : CX p s m args meth c cX12_solve RX12 10 none D shM cy ad (aw shM ad)) {F : Nat} {k80 : St → Int → Option (St)} {q : St} (hk80 : ∀ sg x2, k80 sg x2 = some q → GG p l e rm_M_solve s m args below meth c (QV D shM cy ad below args s q) D shM cy ad (aw shM ad) 10 80 [(0, .ref (ad 0)), (2, mI x2)] [] sg) : ∀ (n : Nat) (sg : St) (x2 x3 : Int), l_M_solve_61  F k80 n sg x2 x3 = some q → GG p l e rm_M_solve s m args below meth c (QV D shM cy ad below args s q) D shM cy ad (aw shM ad) 10 61 [(0, .ref (ad 0)), (2, mI x2), (3, mI x3)] [] sg := by
  intro n
  induction n with
  | zero => intro sg x2 x3 h; cases h
  | succ n ih => exact fun sg x2 x3 h => b_M_solve_61_ok X ih hk80 h
set_option maxRecDepth 100000 in
set_option maxHeartbeats 4000000 in
theorem b_M_solve_7_ok {p : Program} {l : Launch} {e : Env} {s : State} {m : MethodId} {args : Array Value} {below : List Frame} {meth : Method} {c : Code} {D : va_G} {cy : Nat → ClassId} {ad : Nat → Nat} (X : CX p s m args meth c cX12_solve RX12 10 none D shM cy ad (aw shM ad)) {F : Nat} {kc : St → Int → Int → Option (St)} {k54 : St → Option (St)} {q : St} (hkc : ∀ sg x1 x2, kc sg x1 x2 = some q → GG p l e rm_M_solve s m args below meth c (QV D shM cy ad below args s q) D shM cy ad (aw shM ad) 10 7 [(0, .ref (ad 0)), (1, mI x1), (2, mI x2)] [] sg) (hk54 : ∀ sg , k54 sg  = some q → GG p l e rm_M_solve s m args below meth c (QV D shM cy ad below args s q) D shM cy ad (aw shM ad) 10 54 [(0, .ref (ad 0))] [] sg) {sg : St} {x1 x2 : Int} (hf : b_M_solve_7  F kc k54 sg x1 x2 = some q) : GG p l e rm_M_solve s m args below meth c (QV D shM cy ad below args s q) D shM cy ad (aw shM ad) 10 7 [(0, .ref (ad 0)), (1, mI x1), (2, mI x2)] [] sg := by
  refine r_iload_n X 2 dX12_solve_7 rfl rfl ?_
  refine r_aload_n X 0 dX12_solve_8 rfl rfl ?_
  refine r_getI X fl_12_208 k_M_0_5 dX12_solve_9 ?_
  refine r_icmp_ge (tgt := 54) X dX12_solve_12 (by decide) (fun hc1 => ?_) (fun hc1 => ?_)
  · have hf := ite_yes hc1 hf
    refine r_perm (lv2 := [(0, .ref (ad 0))]) [0] rfl ?_
    exact hk54 _ hf
  · have hf := ite_no hc1 hf
    refine r_aload_n X 0 dX12_solve_15 rfl rfl ?_
    refine r_getR X fl_12_94 k_M_0_36 dX12_solve_16 ?_
    refine r_iload_n X 2 dX12_solve_19 rfl rfl ?_
    obtain ⟨hg2, hf⟩ := gd_some hf
    refine r_iald X a_M_26 hg2 dX12_solve_20 ?_
    refine r_iload_n X 1 dX12_solve_21 rfl rfl ?_
    refine r_icmp_eq (tgt := 28) X dX12_solve_22 (by decide) (fun hc3 => ?_) (fun hc3 => ?_)
    · have hf := ite_yes hc3 hf
      refine r_aload_n X 0 dX12_solve_28 rfl rfl ?_
      refine r_getR X fl_12_97 k_M_0_37 dX12_solve_29 ?_
      refine r_aload_n X 0 dX12_solve_32 rfl rfl ?_
      refine r_getI X fl_12_270 k_M_0_39 dX12_solve_33 ?_
      refine r_iload_n X 2 dX12_solve_36 rfl rfl ?_
      obtain ⟨hg4, hf⟩ := gd_some hf
      refine r_iast X a_M_27 hg4 dX12_solve_37 ?_
      refine r_aload_n X 0 dX12_solve_38 rfl rfl ?_
      refine r_dup X dX12_solve_39 rfl ?_
      refine r_getI X fl_12_270 k_M_0_39 dX12_solve_40 ?_
      refine r_iconst X dX12_solve_43 ?_
      refine r_iadd X dX12_solve_44 ?_
      refine r_putI X fp_12_270 k_M_0_39 rfl rfl dX12_solve_45 ?_
      refine r_iinc (lv2 := [(2, mI (x2 + 1)), (0, .ref (ad 0)), (1, mI x1)]) X 2 dX12_solve_48 rfl (by decide) rfl ?_
      refine r_goto (tgt := 7) X dX12_solve_51 (by decide) ?_
      refine r_perm (lv2 := [(0, .ref (ad 0)), (1, mI x1), (2, mI (x2 + 1))]) [1, 2, 0] rfl ?_
      exact hkc _ _ _ hf
    · have hf := ite_no hc3 hf
      refine r_goto (tgt := 48) X dX12_solve_25 (by decide) ?_
      refine r_iinc (lv2 := [(2, mI (x2 + 1)), (0, .ref (ad 0)), (1, mI x1)]) X 2 dX12_solve_48 rfl (by decide) rfl ?_
      refine r_goto (tgt := 7) X dX12_solve_51 (by decide) ?_
      refine r_perm (lv2 := [(0, .ref (ad 0)), (1, mI x1), (2, mI (x2 + 1))]) [1, 2, 0] rfl ?_
      exact hkc _ _ _ hf
set_option maxRecDepth 100000 in
set_option maxHeartbeats 4000000 in
theorem l_M_solve_7_ok {p : Program} {l : Launch} {e : Env} {s : State} {m : MethodId} {args : Array Value} {below : List Frame} {meth : Method} {c : Code} {D : va_G} {cy : Nat → ClassId} {ad : Nat → Nat} (X : CX p s m args meth c cX12_solve RX12 10 none D shM cy ad (aw shM ad)) {F : Nat} {k54 : St → Option (St)} {q : St} (hk54 : ∀ sg , k54 sg  = some q → GG p l e rm_M_solve s m args below meth c (QV D shM cy ad below args s q) D shM cy ad (aw shM ad) 10 54 [(0, .ref (ad 0))] [] sg) : ∀ (n : Nat) (sg : St) (x1 x2 : Int), l_M_solve_7  F k54 n sg x1 x2 = some q → GG p l e rm_M_solve s m args below meth c (QV D shM cy ad below args s q) D shM cy ad (aw shM ad) 10 7 [(0, .ref (ad 0)), (1, mI x1), (2, mI x2)] [] sg := by
  intro n
  induction n with
  | zero => intro sg x1 x2 h; cases h
  | succ n ih => exact fun sg x1 x2 h => b_M_solve_7_ok X ih hk54 h
set_option maxRecDepth 100000 in
set_option maxHeartbeats 4000000 in
theorem c_M_solve {l : Launch} {F : Nat} {sg : St} {x1 : Int} {q : St} (hf : f_M_solve F  sg x1 = some q) : MV l shM yX12_solve cX12_solve 10 none rm_M_solve (fun ad => [.ref (ad 0), mI x1]) sg q := by
  refine mk_v (by decide) (fun _ => Nat.le_of_ble_eq_true rfl) (fun p e s m args below meth c D cy ad X => ?_)
  have X : CX p s m args meth c cX12_solve RX12 10 none D shM cy ad (aw shM ad) := X
  refine r_perm (lv2 := [(0, .ref (ad 0)), (1, mI x1)]) [0, 1] rfl ?_
  refine r_aload_n X 0 dX12_solve_0 rfl rfl ?_
  refine r_iconst X dX12_solve_1 ?_
  refine r_putI X fp_12_270 k_M_0_39 rfl rfl dX12_solve_2 ?_
  refine r_iconst X dX12_solve_5 ?_
  refine r_istore_n (lv2 := [(2, mI 0), (0, .ref (ad 0)), (1, mI x1)]) X dX12_solve_6 rfl (by decide) rfl ?_
  refine r_perm (lv2 := [(0, .ref (ad 0)), (1, mI x1), (2, mI 0)]) [1, 2, 0] rfl ?_
  refine l_M_solve_7_ok X ?_ F _ _ _ hf
  · intro s2  hf
    refine r_aload_n X 0 dX12_solve_54 rfl rfl ?_
    refine r_getI X fl_12_270 k_M_0_39 dX12_solve_55 ?_
    refine r_istore_n (lv2 := [(2, mI (s2 0 39)), (0, .ref (ad 0))]) X dX12_solve_58 rfl (by decide) rfl ?_
    refine r_iconst X dX12_solve_59 ?_
    refine r_istore_n (lv2 := [(3, mI 0), (2, mI (s2 0 39)), (0, .ref (ad 0))]) X dX12_solve_60 rfl (by decide) rfl ?_
    refine r_perm (lv2 := [(0, .ref (ad 0)), (2, mI (s2 0 39)), (3, mI 0)]) [2, 1, 0] rfl ?_
    refine l_M_solve_61_ok X ?_ F _ _ _ hf
    · intro s3 x2_4 hf
      refine r_iconst X dX12_solve_80 ?_
      refine r_istore_n (lv2 := [(3, mI 0), (0, .ref (ad 0)), (2, mI x2_4)]) X dX12_solve_81 rfl (by decide) rfl ?_
      refine r_perm (lv2 := [(0, .ref (ad 0)), (2, mI x2_4), (3, mI 0)]) [1, 2, 0] rfl ?_
      refine l_M_solve_82_ok X ?_ F _ _ _ hf
      · intro s5 x2_6 hf
        refine r_iconst X dX12_solve_100 ?_
        refine r_istore_n (lv2 := [(3, mI 0), (0, .ref (ad 0)), (2, mI x2_6)]) X dX12_solve_101 rfl (by decide) rfl ?_
        refine r_perm (lv2 := [(0, .ref (ad 0)), (2, mI x2_6), (3, mI 0)]) [1, 2, 0] rfl ?_
        refine l_M_solve_102_ok X ?_ F _ _ _ hf
        · intro s7 x2_8 hf
          refine r_iconst X dX12_solve_344 ?_
          refine r_istore_n (lv2 := [(3, mI 0), (0, .ref (ad 0)), (2, mI x2_8)]) X dX12_solve_345 rfl (by decide) rfl ?_
          refine r_perm (lv2 := [(0, .ref (ad 0)), (2, mI x2_8), (3, mI 0)]) [1, 2, 0] rfl ?_
          refine l_M_solve_346_ok X ?_ F _ _ _ hf
          · intro s9 x2_10 hf
            refine r_aload_n X 0 dX12_solve_370 rfl rfl ?_
            refine r_getR X fl_12_107 k_M_0_41 dX12_solve_371 ?_
            refine r_iload_n X 1 dX12_solve_374 rfl rfl ?_
            refine r_iconst X dX12_solve_375 ?_
            refine r_isub X dX12_solve_376 ?_
            refine r_lconst (v := 0) X dX12_solve_377 (by decide) ?_
            obtain ⟨hg11, hf⟩ := gd_some hf
            refine r_last X a_M_30 hg11 dX12_solve_378 ?_
            refine r_aload_n X 0 dX12_solve_379 rfl rfl ?_
            refine r_aload_n X 0 dX12_solve_380 rfl rfl ?_
            refine r_iconst X dX12_solve_381 ?_
            obtain ⟨q13, hq13, hf⟩ := bd_some hf
            refine r_callVL X (As := [mI (-1)]) (st := [.ref (ad 0)]) (as := fun ad => [.ref (ad 0), mI (-1)]) (c_M_square hq13) rfl yw_X12_square yv_X12_square ml_RX12_277 o_M_0 rfl rfl ⟨rfl, rfl⟩ ⟨Nat.le_of_ble_eq_true rfl, Nat.le_of_ble_eq_true rfl⟩ rfl rfl (Nat.le_of_ble_eq_true rfl) dX12_solve_382 ?_
            refine r_putL X fp_12_281 k_M_0_43 rfl rfl dX12_solve_385 ?_
            refine r_iconst X dX12_solve_388 ?_
            refine r_istore_n (lv2 := [(3, mI 0), (0, .ref (ad 0)), (2, mI x2_10)]) X dX12_solve_389 rfl (by decide) rfl ?_
            refine r_perm (lv2 := [(0, .ref (ad 0)), (2, mI x2_10), (3, mI 0)]) [1, 2, 0] rfl ?_
            refine l_M_solve_390_ok X ?_ F _ _ _ hf
            · intro s15  hf
              exact r_vreturn X hf dX12_solve_412
set_option maxRecDepth 100000 in
set_option maxHeartbeats 4000000 in
theorem b_M_common_12_ok {p : Program} {l : Launch} {e : Env} {s : State} {m : MethodId} {args : Array Value} {below : List Frame} {meth : Method} {c : Code} {D : va_G} {cy : Nat → ClassId} {ad : Nat → Nat} (X : CX p s m args meth c cX12_common RX12 10 (some .long) D shM cy ad (aw shM ad)) {F : Nat} {kc : St → Int → Int → Option (Int × St)} {k37 : St → Int → Option (Int × St)} {q : Int × St} (hkc : ∀ sg x4 x6, kc sg x4 x6 = some q → GG p l e rm_M_common s m args below meth c (QL D shM cy ad below args s q) D shM cy ad (aw shM ad) 10 12 [(4, mL x4), (6, mL x6)] [] sg) (hk37 : ∀ sg x4, k37 sg x4 = some q → GG p l e rm_M_common s m args below meth c (QL D shM cy ad below args s q) D shM cy ad (aw shM ad) 10 37 [(4, mL x4)] [] sg) {sg : St} {x4 x6 : Int} (hf : b_M_common_12  F kc k37 sg x4 x6 = some q) : GG p l e rm_M_common s m args below meth c (QL D shM cy ad below args s q) D shM cy ad (aw shM ad) 10 12 [(4, mL x4), (6, mL x6)] [] sg := by
  refine r_lload X 1 dX12_common_12 rfl ?_
  refine r_lconst (v := 0) X dX12_common_14 (by decide) ?_
  refine r_lc_eq (tgt := 37) X dX12_common_15 dX12_common_16 (by decide) (fun hc1 => ?_) (fun hc1 => ?_)
  · have hf := ite_yes hc1 hf
    refine r_perm (lv2 := [(4, mL x4)]) [0] rfl ?_
    exact hk37 _ _ hf
  · have hf := ite_no hc1 hf
    refine r_lload X 0 dX12_common_19 rfl ?_
    refine r_lload X 1 dX12_common_21 rfl ?_
    obtain ⟨hg2, hf⟩ := gd_some hf
    refine r_lrem X hg2 dX12_common_23 ?_
    refine r_lstore (lv2 := [(8, mL (remL x4 x6)), (4, mL x4), (6, mL x6)]) X dX12_common_24 (by decide) rfl ?_
    refine r_lload X 2 dX12_common_26 rfl ?_
    refine r_lstore (lv2 := [(4, mL x6), (8, mL (remL x4 x6)), (6, mL x6)]) X dX12_common_28 (by decide) rfl ?_
    refine r_lload X 1 dX12_common_30 rfl ?_
    refine r_lstore (lv2 := [(6, mL (remL x4 x6)), (4, mL x6), (8, mL (remL x4 x6))]) X dX12_common_32 (by decide) rfl ?_
    refine r_goto (tgt := 12) X dX12_common_34 (by decide) ?_
    refine r_perm (lv2 := [(4, mL x6), (6, mL (remL x4 x6))]) [1, 0] rfl ?_
    exact hkc _ _ _ hf
set_option maxRecDepth 100000 in
set_option maxHeartbeats 4000000 in
theorem l_M_common_12_ok {p : Program} {l : Launch} {e : Env} {s : State} {m : MethodId} {args : Array Value} {below : List Frame} {meth : Method} {c : Code} {D : va_G} {cy : Nat → ClassId} {ad : Nat → Nat} (X : CX p s m args meth c cX12_common RX12 10 (some .long) D shM cy ad (aw shM ad)) {F : Nat} {k37 : St → Int → Option (Int × St)} {q : Int × St} (hk37 : ∀ sg x4, k37 sg x4 = some q → GG p l e rm_M_common s m args below meth c (QL D shM cy ad below args s q) D shM cy ad (aw shM ad) 10 37 [(4, mL x4)] [] sg) : ∀ (n : Nat) (sg : St) (x4 x6 : Int), l_M_common_12  F k37 n sg x4 x6 = some q → GG p l e rm_M_common s m args below meth c (QL D shM cy ad below args s q) D shM cy ad (aw shM ad) 10 12 [(4, mL x4), (6, mL x6)] [] sg := by
  intro n
  induction n with
  | zero => intro sg x4 x6 h; cases h
  | succ n ih => exact fun sg x4 x6 h => b_M_common_12_ok X ih hk37 h
set_option maxRecDepth 100000 in
set_option maxHeartbeats 4000000 in
theorem c_M_common {l : Launch} {F : Nat} {sg : St} {x0 x2 : Int} {q : Int × St} (hf : f_M_common F  sg x0 x2 = some q) : ML l shM yX12_common cX12_common 10 (some .long) rm_M_common (fun ad => [mL x0, mL x2]) sg q.2 q.1 := by
  refine mk_l (by decide) (fun _ => Nat.le_of_ble_eq_true rfl) (fun p e s m args below meth c D cy ad X => ?_)
  have X : CX p s m args meth c cX12_common RX12 10 (some .long) D shM cy ad (aw shM ad) := X
  refine r_perm (lv2 := [(0, mL x0), (2, mL x2)]) [0, 1] rfl ?_
  refine r_lload_n X 0 dX12_common_0 rfl rfl ?_
  obtain ⟨q1, hq1, hf⟩ := bd_some hf
  refine r_callSL X (As := [mL x0]) (st := []) (as := fun ad => [mL x0]) (c_MJ_abs hq1) rfl yw_J9_abs_067f4 ys_J9_abs_067f4 ml_RX12_284 ⟨rfl, rfl⟩ ⟨Nat.le_of_ble_eq_true rfl, Nat.le_of_ble_eq_true rfl⟩ rfl rfl (Nat.le_of_ble_eq_true rfl) dX12_common_1 ?_
  refine r_lstore (lv2 := [(4, mL q1.1), (0, mL x0), (2, mL x2)]) X dX12_common_4 (by decide) rfl ?_
  refine r_lload_n X 2 dX12_common_6 rfl rfl ?_
  obtain ⟨q2, hq2, hf⟩ := bd_some hf
  refine r_callSL X (As := [mL x2]) (st := []) (as := fun ad => [mL x2]) (c_MJ_abs hq2) rfl yw_J9_abs_067f4 ys_J9_abs_067f4 ml_RX12_284 ⟨rfl, rfl⟩ ⟨Nat.le_of_ble_eq_true rfl, Nat.le_of_ble_eq_true rfl⟩ rfl rfl (Nat.le_of_ble_eq_true rfl) dX12_common_7 ?_
  refine r_lstore (lv2 := [(6, mL q2.1), (4, mL q1.1), (0, mL x0), (2, mL x2)]) X dX12_common_10 (by decide) rfl ?_
  refine r_perm (lv2 := [(4, mL q1.1), (6, mL q2.1)]) [1, 0] rfl ?_
  refine l_M_common_12_ok X ?_ F _ _ _ hf
  · intro s3 x4_4 hf
    refine r_lload X 0 dX12_common_37 rfl ?_
    exact r_lreturn X hf dX12_common_39
set_option maxRecDepth 100000 in
set_option maxHeartbeats 4000000 in
theorem b_M_tells_18_ok {p : Program} {l : Launch} {e : Env} {s : State} {m : MethodId} {args : Array Value} {below : List Frame} {meth : Method} {c : Code} {D : va_G} {cy : Nat → ClassId} {ad : Nat → Nat} (X : CX p s m args meth c cX12_tells RX12 7 none D shM cy ad (aw shM ad)) {F : Nat} {q : St} {sg : St} {x1 x3 x5 : Int} (hf : b_M_tells_18  F  sg x1 x3 x5 = some q) : GG p l e rm_M_tells s m args below meth c (QV D shM cy ad below args s q) D shM cy ad (aw shM ad) 7 18 [(0, .ref (ad 0)), (1, mL x1), (3, mL x3), (5, mL x5)] [] sg := by
  refine r_aload_n X 0 dX12_tells_18 rfl rfl ?_
  refine r_lload_n X 1 dX12_tells_19 rfl rfl ?_
  refine r_lload X 3 dX12_tells_20 rfl ?_
  obtain ⟨hg1, hf⟩ := gd_some hf
  refine r_ldiv X hg1 dX12_tells_22 ?_
  refine r_putL X fp_12_292 k_M_0_2 rfl rfl dX12_tells_23 ?_
  refine r_aload_n X 0 dX12_tells_26 rfl rfl ?_
  refine r_lload_n X 2 dX12_tells_27 rfl rfl ?_
  refine r_lload X 3 dX12_tells_28 rfl ?_
  obtain ⟨hg3, hf⟩ := gd_some hf
  refine r_ldiv X hg3 dX12_tells_30 ?_
  refine r_putL X fp_12_7 k_M_0_3 rfl rfl dX12_tells_31 ?_
  exact r_vreturn X hf dX12_tells_34
set_option maxRecDepth 100000 in
set_option maxHeartbeats 4000000 in
theorem c_M_tells {l : Launch} {F : Nat} {sg : St} {x1 x3 : Int} {q : St} (hf : f_M_tells F  sg x1 x3 = some q) : MV l shM yX12_tells cX12_tells 7 none rm_M_tells (fun ad => [.ref (ad 0), mL x1, mL x3]) sg q := by
  refine mk_v (by decide) (fun _ => Nat.le_of_ble_eq_true rfl) (fun p e s m args below meth c D cy ad X => ?_)
  have X : CX p s m args meth c cX12_tells RX12 7 none D shM cy ad (aw shM ad) := X
  refine r_perm (lv2 := [(0, .ref (ad 0)), (1, mL x1), (3, mL x3)]) [0, 1, 2] rfl ?_
  refine r_lload_n X 1 dX12_tells_0 rfl rfl ?_
  refine r_lload_n X 2 dX12_tells_1 rfl rfl ?_
  obtain ⟨q1, hq1, hf⟩ := bd_some hf
  refine r_callSL X (As := [mL x1, mL x3]) (st := []) (as := fun ad => [mL x1, mL x3]) (c_M_common hq1) rfl yw_X12_common ys_X12_common ml_RX12_288 ⟨rfl, rfl⟩ ⟨Nat.le_of_ble_eq_true rfl, Nat.le_of_ble_eq_true rfl⟩ rfl rfl (Nat.le_of_ble_eq_true rfl) dX12_tells_2 ?_
  refine r_lstore (lv2 := [(5, mL q1.1), (0, .ref (ad 0)), (1, mL x1), (3, mL x3)]) X dX12_tells_5 (by decide) rfl ?_
  refine r_lload_n X 3 dX12_tells_7 rfl rfl ?_
  refine r_lconst (v := 0) X dX12_tells_8 (by decide) ?_
  refine r_lc_ge (tgt := 18) X dX12_tells_9 dX12_tells_10 (by decide) (fun hc2 => ?_) (fun hc2 => ?_)
  · have hf := ite_yes hc2 hf
    refine r_perm (lv2 := [(0, .ref (ad 0)), (1, mL x1), (3, mL x3), (5, mL q1.1)]) [1, 2, 3, 0] rfl ?_
    exact b_M_tells_18_ok X  hf
  · have hf := ite_no hc2 hf
    refine r_lload X 0 dX12_tells_13 rfl ?_
    refine r_lneg X dX12_tells_15 ?_
    refine r_lstore (lv2 := [(5, mL (-q1.1)), (0, .ref (ad 0)), (1, mL x1), (3, mL x3)]) X dX12_tells_16 (by decide) rfl ?_
    refine r_perm (lv2 := [(0, .ref (ad 0)), (1, mL x1), (3, mL x3), (5, mL (-q1.1))]) [1, 2, 3, 0] rfl ?_
    exact b_M_tells_18_ok X  hf
set_option maxRecDepth 100000 in
set_option maxHeartbeats 4000000 in
theorem b_M_hardness_91_ok {p : Program} {l : Launch} {e : Env} {s : State} {m : MethodId} {args : Array Value} {below : List Frame} {meth : Method} {c : Code} {D : va_G} {cy : Nat → ClassId} {ad : Nat → Nat} (X : CX p s m args meth c cX12_hardness RX12 4 (some .boolean) D shM cy ad (aw shM ad)) {F : Nat} {kc : St → Int → Int → Option (Int × St)} {k129 : St → Option (Int × St)} {q : Int × St} (hkc : ∀ sg x1 x3, kc sg x1 x3 = some q → GG p l e rm_M_hardness s m args below meth c (QI D shM cy ad below args s q) D shM cy ad (aw shM ad) 4 91 [(0, .ref (ad 0)), (1, mI x1), (3, mI x3)] [] sg) (hk129 : ∀ sg , k129 sg  = some q → GG p l e rm_M_hardness s m args below meth c (QI D shM cy ad below args s q) D shM cy ad (aw shM ad) 4 129 [] [] sg) {sg : St} {x1 x3 : Int} (hf : b_M_hardness_91  F kc k129 sg x1 x3 = some q) : GG p l e rm_M_hardness s m args below meth c (QI D shM cy ad below args s q) D shM cy ad (aw shM ad) 4 91 [(0, .ref (ad 0)), (1, mI x1), (3, mI x3)] [] sg := by
  refine r_iload_n X 2 dX12_hardness_91 rfl rfl ?_
  refine r_aload_n X 0 dX12_hardness_92 rfl rfl ?_
  refine r_getI X fl_12_270 k_M_0_39 dX12_hardness_93 ?_
  refine r_icmp_ge (tgt := 129) X dX12_hardness_96 (by decide) (fun hc1 => ?_) (fun hc1 => ?_)
  · have hf := ite_yes hc1 hf
    refine r_perm (lv2 := []) [] rfl ?_
    exact hk129 _ hf
  · have hf := ite_no hc1 hf
    refine r_aload_n X 0 dX12_hardness_99 rfl rfl ?_
    refine r_getR X fl_12_97 k_M_0_37 dX12_hardness_100 ?_
    refine r_iload_n X 2 dX12_hardness_103 rfl rfl ?_
    obtain ⟨hg2, hf⟩ := gd_some hf
    refine r_iald X a_M_27 hg2 dX12_hardness_104 ?_
    refine r_iload_n X 1 dX12_hardness_105 rfl rfl ?_
    refine r_icmp_ne (tgt := 123) X dX12_hardness_106 (by decide) (fun hc3 => ?_) (fun hc3 => ?_)
    · have hf := ite_yes hc3 hf
      refine r_aload_n X 0 dX12_hardness_109 rfl rfl ?_
      refine r_aload_n X 0 dX12_hardness_110 rfl rfl ?_
      refine r_getR X fl_12_110 k_M_0_42 dX12_hardness_111 ?_
      refine r_iload_n X 2 dX12_hardness_114 rfl rfl ?_
      obtain ⟨hg4, hf⟩ := gd_some hf
      refine r_lald X a_M_31 hg4 dX12_hardness_115 ?_
      refine r_aload_n X 0 dX12_hardness_116 rfl rfl ?_
      refine r_getL X fl_12_281 k_M_0_43 dX12_hardness_117 ?_
      obtain ⟨q5, hq5, hf⟩ := bd_some hf
      refine r_callVV X (As := [mL (sg 31 (ix x3)), mL (sg 0 43)]) (st := []) (as := fun ad => [.ref (ad 0), mL (sg 31 (ix x3)), mL (sg 0 43)]) (c_M_tells hq5) rfl yw_X12_tells yv_X12_tells ml_RX12_301 o_M_0 rfl rfl ⟨rfl, rfl⟩ ⟨Nat.le_of_ble_eq_true rfl, Nat.le_of_ble_eq_true rfl⟩ rfl rfl (Nat.le_of_ble_eq_true rfl) dX12_hardness_120 ?_
      refine r_iinc (lv2 := [(3, mI (x3 + 1)), (0, .ref (ad 0)), (1, mI x1)]) X 2 dX12_hardness_123 rfl (by decide) rfl ?_
      refine r_goto (tgt := 91) X dX12_hardness_126 (by decide) ?_
      refine r_perm (lv2 := [(0, .ref (ad 0)), (1, mI x1), (3, mI (x3 + 1))]) [1, 2, 0] rfl ?_
      exact hkc _ _ _ hf
    · have hf := ite_no hc3 hf
      refine r_iinc (lv2 := [(3, mI (x3 + 1)), (0, .ref (ad 0)), (1, mI x1)]) X 2 dX12_hardness_123 rfl (by decide) rfl ?_
      refine r_goto (tgt := 91) X dX12_hardness_126 (by decide) ?_
      refine r_perm (lv2 := [(0, .ref (ad 0)), (1, mI x1), (3, mI (x3 + 1))]) [1, 2, 0] rfl ?_
      exact hkc _ _ _ hf
set_option maxRecDepth 100000 in
set_option maxHeartbeats 4000000 in
theorem l_M_hardness_91_ok {p : Program} {l : Launch} {e : Env} {s : State} {m : MethodId} {args : Array Value} {below : List Frame} {meth : Method} {c : Code} {D : va_G} {cy : Nat → ClassId} {ad : Nat → Nat} (X : CX p s m args meth c cX12_hardness RX12 4 (some .boolean) D shM cy ad (aw shM ad)) {F : Nat} {k129 : St → Option (Int × St)} {q : Int × St} (hk129 : ∀ sg , k129 sg  = some q → GG p l e rm_M_hardness s m args below meth c (QI D shM cy ad below args s q) D shM cy ad (aw shM ad) 4 129 [] [] sg) : ∀ (n : Nat) (sg : St) (x1 x3 : Int), l_M_hardness_91  F k129 n sg x1 x3 = some q → GG p l e rm_M_hardness s m args below meth c (QI D shM cy ad below args s q) D shM cy ad (aw shM ad) 4 91 [(0, .ref (ad 0)), (1, mI x1), (3, mI x3)] [] sg := by
  intro n
  induction n with
  | zero => intro sg x1 x3 h; cases h
  | succ n ih => exact fun sg x1 x3 h => b_M_hardness_91_ok X ih hk129 h
set_option maxRecDepth 100000 in
set_option maxHeartbeats 4000000 in
theorem c_M_hardness {l : Launch} {F : Nat} {sg : St} {x1 x2 : Int} {q : Int × St} (hf : f_M_hardness F  sg x1 x2 = some q) : MI l shM yX12_hardness cX12_hardness 4 (some .boolean) rm_M_hardness (fun ad => [.ref (ad 0), mI x1, mI x2]) sg q.2 q.1 := by
  refine mk_i (by decide) (fun _ => Nat.le_of_ble_eq_true rfl) (fun p e s m args below meth c D cy ad X => ?_)
  have X : CX p s m args meth c cX12_hardness RX12 4 (some .boolean) D shM cy ad (aw shM ad) := X
  refine r_perm (lv2 := [(0, .ref (ad 0)), (1, mI x1), (2, mI x2)]) [0, 1, 2] rfl ?_
  refine r_aload_n X 0 dX12_hardness_0 rfl rfl ?_
  refine r_iconst X dX12_hardness_1 ?_
  refine r_putI X fp_12_195 k_M_0_1 rfl rfl dX12_hardness_2 ?_
  refine r_aload_n X 0 dX12_hardness_5 rfl rfl ?_
  refine r_iconst X dX12_hardness_6 ?_
  refine r_putI X fp_12_198 k_M_0_0 rfl rfl dX12_hardness_7 ?_
  refine r_aload_n X 0 dX12_hardness_10 rfl rfl ?_
  refine r_iload_n X 1 dX12_hardness_11 rfl rfl ?_
  obtain ⟨q3, hq3, hf⟩ := bd_some hf
  refine r_callVI X (As := [mI x1]) (st := []) (as := fun ad => [.ref (ad 0), mI x1]) (c_M_isJudge hq3) rfl yw_X12_isJudge yv_X12_isJudge ml_RX12_219 o_M_0 rfl rfl ⟨rfl, rfl⟩ ⟨Nat.le_of_ble_eq_true rfl, Nat.le_of_ble_eq_true rfl⟩ rfl rfl (Nat.le_of_ble_eq_true rfl) dX12_hardness_12 ?_
  refine r_if_ne (tgt := 24) X dX12_hardness_15 (by decide) (fun hc4 => ?_) (fun hc4 => ?_)
  · have hf := ite_yes hc4 hf
    refine r_aload_n X 0 dX12_hardness_18 rfl rfl ?_
    refine r_iconst X dX12_hardness_19 ?_
    obtain ⟨q5, hq5, hf⟩ := bd_some hf
    refine r_callVI X (As := [mI 1]) (st := []) (as := fun ad => [.ref (ad 0), mI 1]) (c_M_no hq5) rfl yw_X12_no yv_X12_no ml_RX12_222 o_M_0 rfl rfl ⟨rfl, rfl⟩ ⟨Nat.le_of_ble_eq_true rfl, Nat.le_of_ble_eq_true rfl⟩ rfl rfl (Nat.le_of_ble_eq_true rfl) dX12_hardness_20 ?_
    obtain ⟨hz6, hf⟩ := gd_some hf
    exact r_zreturn X hf (zn_of hz6) dX12_hardness_23
  · have hf := ite_no hc4 hf
    refine r_iload_n X 2 dX12_hardness_24 rfl rfl ?_
    obtain ⟨q7, hq7, hf⟩ := bd_some hf
    refine r_callSI X (As := [mI x2]) (st := []) (as := fun ad => [mI x2]) (c_M_isDay hq7) rfl yw_X12_isDay ys_X12_isDay ml_RX12_253 ⟨rfl, rfl⟩ ⟨Nat.le_of_ble_eq_true rfl, Nat.le_of_ble_eq_true rfl⟩ rfl rfl (Nat.le_of_ble_eq_true rfl) dX12_hardness_25 ?_
    refine r_if_ne (tgt := 37) X dX12_hardness_28 (by decide) (fun hc8 => ?_) (fun hc8 => ?_)
    · have hf := ite_yes hc8 hf
      refine r_aload_n X 0 dX12_hardness_31 rfl rfl ?_
      refine r_iconst X dX12_hardness_32 ?_
      obtain ⟨q9, hq9, hf⟩ := bd_some hf
      refine r_callVI X (As := [mI 2]) (st := []) (as := fun ad => [.ref (ad 0), mI 2]) (c_M_no hq9) rfl yw_X12_no yv_X12_no ml_RX12_222 o_M_0 rfl rfl ⟨rfl, rfl⟩ ⟨Nat.le_of_ble_eq_true rfl, Nat.le_of_ble_eq_true rfl⟩ rfl rfl (Nat.le_of_ble_eq_true rfl) dX12_hardness_33 ?_
      obtain ⟨hz10, hf⟩ := gd_some hf
      exact r_zreturn X hf (zn_of hz10) dX12_hardness_36
    · have hf := ite_no hc8 hf
      refine r_aload_n X 0 dX12_hardness_37 rfl rfl ?_
      refine r_iload_n X 2 dX12_hardness_38 rfl rfl ?_
      obtain ⟨q11, hq11, hf⟩ := bd_some hf
      refine r_callVV X (As := [mI x2]) (st := []) (as := fun ad => [.ref (ad 0), mI x2]) (c_M_known hq11) rfl yw_X12_known yv_X12_known ml_RX12_264 o_M_0 rfl rfl ⟨rfl, rfl⟩ ⟨Nat.le_of_ble_eq_true rfl, Nat.le_of_ble_eq_true rfl⟩ rfl rfl (Nat.le_of_ble_eq_true rfl) dX12_hardness_39 ?_
      refine r_aload_n X 0 dX12_hardness_42 rfl rfl ?_
      refine r_getR X fl_12_94 k_M_0_36 dX12_hardness_43 ?_
      refine r_iload_n X 1 dX12_hardness_46 rfl rfl ?_
      obtain ⟨hg12, hf⟩ := gd_some hf
      refine r_iald X a_M_26 hg12 dX12_hardness_47 ?_
      refine r_if_ge (tgt := 58) X dX12_hardness_48 (by decide) (fun hc13 => ?_) (fun hc13 => ?_)
      · have hf := ite_yes hc13 hf
        refine r_aload_n X 0 dX12_hardness_58 rfl rfl ?_
        refine r_aload_n X 0 dX12_hardness_59 rfl rfl ?_
        refine r_getR X fl_12_94 k_M_0_36 dX12_hardness_60 ?_
        refine r_iload_n X 1 dX12_hardness_63 rfl rfl ?_
        obtain ⟨hg16, hf⟩ := gd_some hf
        refine r_iald X a_M_26 hg16 dX12_hardness_64 ?_
        obtain ⟨q17, hq17, hf⟩ := bd_some hf
        refine r_callVI X (As := [mI (q11 26 (ix x1))]) (st := []) (as := fun ad => [.ref (ad 0), mI (q11 26 (ix x1))]) (c_M_sizeOf hq17) rfl yw_X12_sizeOf yv_X12_sizeOf ml_RX12_295 o_M_0 rfl rfl ⟨rfl, rfl⟩ ⟨Nat.le_of_ble_eq_true rfl, Nat.le_of_ble_eq_true rfl⟩ rfl rfl (Nat.le_of_ble_eq_true rfl) dX12_hardness_65 ?_
        refine r_iconst X dX12_hardness_68 ?_
        refine r_icmp_le (tgt := 79) X dX12_hardness_69 (by decide) (fun hc18 => ?_) (fun hc18 => ?_)
        · have hf := ite_yes hc18 hf
          refine r_aload_n X 0 dX12_hardness_79 rfl rfl ?_
          refine r_aload_n X 0 dX12_hardness_80 rfl rfl ?_
          refine r_getR X fl_12_94 k_M_0_36 dX12_hardness_81 ?_
          refine r_iload_n X 1 dX12_hardness_84 rfl rfl ?_
          obtain ⟨hg21, hf⟩ := gd_some hf
          refine r_iald X a_M_26 hg21 dX12_hardness_85 ?_
          obtain ⟨q22, hq22, hf⟩ := bd_some hf
          refine r_callVV X (As := [mI (q17.2 26 (ix x1))]) (st := []) (as := fun ad => [.ref (ad 0), mI (q17.2 26 (ix x1))]) (c_M_solve hq22) rfl yw_X12_solve yv_X12_solve ml_RX12_298 o_M_0 rfl rfl ⟨rfl, rfl⟩ ⟨Nat.le_of_ble_eq_true rfl, Nat.le_of_ble_eq_true rfl⟩ rfl rfl (Nat.le_of_ble_eq_true rfl) dX12_hardness_86 ?_
          refine r_iconst X dX12_hardness_89 ?_
          refine r_istore_n (lv2 := [(3, mI 0), (0, .ref (ad 0)), (1, mI x1), (2, mI x2)]) X dX12_hardness_90 rfl (by decide) rfl ?_
          refine r_perm (lv2 := [(0, .ref (ad 0)), (1, mI x1), (3, mI 0)]) [1, 2, 0] rfl ?_
          refine l_M_hardness_91_ok X ?_ F _ _ _ hf
          · intro s23  hf
            refine r_iconst X dX12_hardness_129 ?_
            exact r_zreturn X hf rfl dX12_hardness_130
        · have hf := ite_no hc18 hf
          refine r_aload_n X 0 dX12_hardness_72 rfl rfl ?_
          refine r_bipush X dX12_hardness_73 (by decide) ?_
          obtain ⟨q19, hq19, hf⟩ := bd_some hf
          refine r_callVI X (As := [mI 9]) (st := []) (as := fun ad => [.ref (ad 0), mI 9]) (c_M_no hq19) rfl yw_X12_no yv_X12_no ml_RX12_222 o_M_0 rfl rfl ⟨rfl, rfl⟩ ⟨Nat.le_of_ble_eq_true rfl, Nat.le_of_ble_eq_true rfl⟩ rfl rfl (Nat.le_of_ble_eq_true rfl) dX12_hardness_75 ?_
          obtain ⟨hz20, hf⟩ := gd_some hf
          exact r_zreturn X hf (zn_of hz20) dX12_hardness_78
      · have hf := ite_no hc13 hf
        refine r_aload_n X 0 dX12_hardness_51 rfl rfl ?_
        refine r_bipush X dX12_hardness_52 (by decide) ?_
        obtain ⟨q14, hq14, hf⟩ := bd_some hf
        refine r_callVI X (As := [mI 6]) (st := []) (as := fun ad => [.ref (ad 0), mI 6]) (c_M_no hq14) rfl yw_X12_no yv_X12_no ml_RX12_222 o_M_0 rfl rfl ⟨rfl, rfl⟩ ⟨Nat.le_of_ble_eq_true rfl, Nat.le_of_ble_eq_true rfl⟩ rfl rfl (Nat.le_of_ble_eq_true rfl) dX12_hardness_54 ?_
        obtain ⟨hz15, hf⟩ := gd_some hf
        exact r_zreturn X hf (zn_of hz15) dX12_hardness_57
set_option maxRecDepth 100000 in
set_option maxHeartbeats 4000000 in
theorem b_M_fairOf_51_ok {p : Program} {l : Launch} {e : Env} {s : State} {m : MethodId} {args : Array Value} {below : List Frame} {meth : Method} {c : Code} {D : va_G} {cy : Nat → ClassId} {ad : Nat → Nat} (X : CX p s m args meth c cX12_fairOf RX12 10 none D shM cy ad (aw shM ad)) {F : Nat} {kc : St → Int → Int → Int → Int → Option (St)} {k119 : St → Int → Int → Option (St)} {q : St} (hkc : ∀ sg x1 x3 x5 x6, kc sg x1 x3 x5 x6 = some q → GG p l e rm_M_fairOf s m args below meth c (QV D shM cy ad below args s q) D shM cy ad (aw shM ad) 10 51 [(0, .ref (ad 0)), (1, mI x1), (3, mL x3), (5, mI x5), (6, mI x6)] [] sg) (hk119 : ∀ sg x3 x5, k119 sg x3 x5 = some q → GG p l e rm_M_fairOf s m args below meth c (QV D shM cy ad below args s q) D shM cy ad (aw shM ad) 10 119 [(0, .ref (ad 0)), (3, mL x3), (5, mI x5)] [] sg) {sg : St} {x1 x3 x5 x6 : Int} (hf : b_M_fairOf_51  F kc k119 sg x1 x3 x5 x6 = some q) : GG p l e rm_M_fairOf s m args below meth c (QV D shM cy ad below args s q) D shM cy ad (aw shM ad) 10 51 [(0, .ref (ad 0)), (1, mI x1), (3, mL x3), (5, mI x5), (6, mI x6)] [] sg := by
  refine r_iload X 4 dX12_fairOf_51 rfl ?_
  refine r_aload_n X 0 dX12_fairOf_53 rfl rfl ?_
  refine r_getI X fl_12_270 k_M_0_39 dX12_fairOf_54 ?_
  refine r_icmp_ge (tgt := 119) X dX12_fairOf_57 (by decide) (fun hc1 => ?_) (fun hc1 => ?_)
  · have hf := ite_yes hc1 hf
    refine r_perm (lv2 := [(0, .ref (ad 0)), (3, mL x3), (5, mI x5)]) [0, 2, 3] rfl ?_
    exact hk119 _ _ _ hf
  · have hf := ite_no hc1 hf
    refine r_aload_n X 0 dX12_fairOf_60 rfl rfl ?_
    refine r_getR X fl_12_91 k_M_0_35 dX12_fairOf_61 ?_
    refine r_iload_n X 1 dX12_fairOf_64 rfl rfl ?_
    refine r_aload_n X 0 dX12_fairOf_65 rfl rfl ?_
    refine r_getR X fl_12_97 k_M_0_37 dX12_fairOf_66 ?_
    refine r_iload X 4 dX12_fairOf_69 rfl ?_
    obtain ⟨hg2, hf⟩ := gd_some hf
    refine r_iald X a_M_27 hg2 dX12_fairOf_71 ?_
    obtain ⟨q3, hq3, hf⟩ := bd_some hf
    refine r_callSI X (As := [mI x1, mI (sg 27 (ix x6))]) (st := [.ref (ad 25)]) (as := fun ad => [mI x1, mI (sg 27 (ix x6))]) (c_M_at hq3) rfl yw_X12_at ys_X12_at ml_RX12_225 ⟨rfl, rfl⟩ ⟨Nat.le_of_ble_eq_true rfl, Nat.le_of_ble_eq_true rfl⟩ rfl rfl (Nat.le_of_ble_eq_true rfl) dX12_fairOf_72 ?_
    obtain ⟨hg4, hf⟩ := gd_some hf
    refine r_iald X a_M_25 hg4 dX12_fairOf_75 ?_
    refine r_istore (lv2 := [(7, mI (q3.2 25 (ix q3.1))), (0, .ref (ad 0)), (1, mI x1), (3, mL x3), (5, mI x5), (6, mI x6)]) X dX12_fairOf_76 (by decide) rfl ?_
    refine r_iload X 0 dX12_fairOf_78 rfl ?_
    refine r_if_ge (tgt := 86) X dX12_fairOf_80 (by decide) (fun hc5 => ?_) (fun hc5 => ?_)
    · have hf := ite_yes hc5 hf
      refine r_lload_n X 3 dX12_fairOf_86 rfl rfl ?_
      refine r_aload_n X 1 dX12_fairOf_87 rfl rfl ?_
      refine r_getR X fl_12_82 k_M_0_32 dX12_fairOf_88 ?_
      refine r_iload X 0 dX12_fairOf_91 rfl ?_
      obtain ⟨hg6, hf⟩ := gd_some hf
      refine r_iald X a_M_22 hg6 dX12_fairOf_93 ?_
      refine r_i2l X dX12_fairOf_94 ?_
      refine r_aload_n X 1 dX12_fairOf_95 rfl rfl ?_
      refine r_getL X fl_12_281 k_M_0_43 dX12_fairOf_96 ?_
      refine r_lmul X dX12_fairOf_99 ?_
      refine r_aload_n X 1 dX12_fairOf_100 rfl rfl ?_
      refine r_getR X fl_12_110 k_M_0_42 dX12_fairOf_101 ?_
      refine r_iload X 5 dX12_fairOf_104 rfl ?_
      obtain ⟨hg7, hf⟩ := gd_some hf
      refine r_lald X a_M_31 hg7 dX12_fairOf_106 ?_
      refine r_lsub X dX12_fairOf_107 ?_
      refine r_ladd X dX12_fairOf_108 ?_
      refine r_lstore_n (lv2 := [(3, mL (x3 + (((w32 (q3.2 22 (ix (q3.2 25 (ix q3.1))))) * (q3.2 0 43)) - (q3.2 31 (ix x6))))), (7, mI (q3.2 25 (ix q3.1))), (0, .ref (ad 0)), (1, mI x1), (5, mI x5), (6, mI x6)]) X dX12_fairOf_109 rfl (by decide) rfl ?_
      refine r_iinc (lv2 := [(5, mI (x5 + 1)), (3, mL (x3 + (((w32 (q3.2 22 (ix (q3.2 25 (ix q3.1))))) * (q3.2 0 43)) - (q3.2 31 (ix x6))))), (7, mI (q3.2 25 (ix q3.1))), (0, .ref (ad 0)), (1, mI x1), (6, mI x6)]) X 4 dX12_fairOf_110 rfl (by decide) rfl ?_
      refine r_iinc (lv2 := [(6, mI (x6 + 1)), (5, mI (x5 + 1)), (3, mL (x3 + (((w32 (q3.2 22 (ix (q3.2 25 (ix q3.1))))) * (q3.2 0 43)) - (q3.2 31 (ix x6))))), (7, mI (q3.2 25 (ix q3.1))), (0, .ref (ad 0)), (1, mI x1)]) X 5 dX12_fairOf_113 rfl (by decide) rfl ?_
      refine r_goto (tgt := 51) X dX12_fairOf_116 (by decide) ?_
      refine r_perm (lv2 := [(0, .ref (ad 0)), (1, mI x1), (3, mL (x3 + (((w32 (q3.2 22 (ix (q3.2 25 (ix q3.1))))) * (q3.2 0 43)) - (q3.2 31 (ix x6))))), (5, mI (x5 + 1)), (6, mI (x6 + 1))]) [4, 5, 2, 1, 0] rfl ?_
      exact hkc _ _ _ _ _ hf
    · have hf := ite_no hc5 hf
      refine r_goto (tgt := 113) X dX12_fairOf_83 (by decide) ?_
      refine r_iinc (lv2 := [(6, mI (x6 + 1)), (7, mI (q3.2 25 (ix q3.1))), (0, .ref (ad 0)), (1, mI x1), (3, mL x3), (5, mI x5)]) X 5 dX12_fairOf_113 rfl (by decide) rfl ?_
      refine r_goto (tgt := 51) X dX12_fairOf_116 (by decide) ?_
      refine r_perm (lv2 := [(0, .ref (ad 0)), (1, mI x1), (3, mL x3), (5, mI x5), (6, mI (x6 + 1))]) [2, 3, 4, 5, 0] rfl ?_
      exact hkc _ _ _ _ _ hf
set_option maxRecDepth 100000 in
set_option maxHeartbeats 4000000 in
theorem l_M_fairOf_51_ok {p : Program} {l : Launch} {e : Env} {s : State} {m : MethodId} {args : Array Value} {below : List Frame} {meth : Method} {c : Code} {D : va_G} {cy : Nat → ClassId} {ad : Nat → Nat} (X : CX p s m args meth c cX12_fairOf RX12 10 none D shM cy ad (aw shM ad)) {F : Nat} {k119 : St → Int → Int → Option (St)} {q : St} (hk119 : ∀ sg x3 x5, k119 sg x3 x5 = some q → GG p l e rm_M_fairOf s m args below meth c (QV D shM cy ad below args s q) D shM cy ad (aw shM ad) 10 119 [(0, .ref (ad 0)), (3, mL x3), (5, mI x5)] [] sg) : ∀ (n : Nat) (sg : St) (x1 x3 x5 x6 : Int), l_M_fairOf_51  F k119 n sg x1 x3 x5 x6 = some q → GG p l e rm_M_fairOf s m args below meth c (QV D shM cy ad below args s q) D shM cy ad (aw shM ad) 10 51 [(0, .ref (ad 0)), (1, mI x1), (3, mL x3), (5, mI x5), (6, mI x6)] [] sg := by
  intro n
  induction n with
  | zero => intro sg x1 x3 x5 x6 h; cases h
  | succ n ih => exact fun sg x1 x3 x5 x6 h => b_M_fairOf_51_ok X ih hk119 h
set_option maxRecDepth 100000 in
set_option maxHeartbeats 4000000 in
theorem b_M_fairOf_4_ok {p : Program} {l : Launch} {e : Env} {s : State} {m : MethodId} {args : Array Value} {below : List Frame} {meth : Method} {c : Code} {D : va_G} {cy : Nat → ClassId} {ad : Nat → Nat} (X : CX p s m args meth c cX12_fairOf RX12 10 none D shM cy ad (aw shM ad)) {F : Nat} {kc : St → Int → Int → Int → Option (St)} {k38 : St → Int → Int → Option (St)} {q : St} (hkc : ∀ sg x1 x2 x3, kc sg x1 x2 x3 = some q → GG p l e rm_M_fairOf s m args below meth c (QV D shM cy ad below args s q) D shM cy ad (aw shM ad) 10 4 [(0, .ref (ad 0)), (1, mI x1), (2, mI x2), (3, mI x3)] [] sg) (hk38 : ∀ sg x1 x2, k38 sg x1 x2 = some q → GG p l e rm_M_fairOf s m args below meth c (QV D shM cy ad below args s q) D shM cy ad (aw shM ad) 10 38 [(0, .ref (ad 0)), (1, mI x1), (2, mI x2)] [] sg) {sg : St} {x1 x2 x3 : Int} (hf : b_M_fairOf_4  F kc k38 sg x1 x2 x3 = some q) : GG p l e rm_M_fairOf s m args below meth c (QV D shM cy ad below args s q) D shM cy ad (aw shM ad) 10 4 [(0, .ref (ad 0)), (1, mI x1), (2, mI x2), (3, mI x3)] [] sg := by
  refine r_iload_n X 3 dX12_fairOf_4 rfl rfl ?_
  refine r_aload_n X 0 dX12_fairOf_5 rfl rfl ?_
  refine r_getI X fl_12_208 k_M_0_5 dX12_fairOf_6 ?_
  refine r_icmp_ge (tgt := 38) X dX12_fairOf_9 (by decide) (fun hc1 => ?_) (fun hc1 => ?_)
  · have hf := ite_yes hc1 hf
    refine r_perm (lv2 := [(0, .ref (ad 0)), (1, mI x1), (2, mI x2)]) [0, 1, 2] rfl ?_
    exact hk38 _ _ _ hf
  · have hf := ite_no hc1 hf
    refine r_aload_n X 0 dX12_fairOf_12 rfl rfl ?_
    refine r_getR X fl_12_91 k_M_0_35 dX12_fairOf_13 ?_
    refine r_iload_n X 1 dX12_fairOf_16 rfl rfl ?_
    refine r_iload_n X 3 dX12_fairOf_17 rfl rfl ?_
    obtain ⟨q2, hq2, hf⟩ := bd_some hf
    refine r_callSI X (As := [mI x1, mI x3]) (st := [.ref (ad 25)]) (as := fun ad => [mI x1, mI x3]) (c_M_at hq2) rfl yw_X12_at ys_X12_at ml_RX12_225 ⟨rfl, rfl⟩ ⟨Nat.le_of_ble_eq_true rfl, Nat.le_of_ble_eq_true rfl⟩ rfl rfl (Nat.le_of_ble_eq_true rfl) dX12_fairOf_18 ?_
    obtain ⟨hg3, hf⟩ := gd_some hf
    refine r_iald X a_M_25 hg3 dX12_fairOf_21 ?_
    refine r_if_lt (tgt := 32) X dX12_fairOf_22 (by decide) (fun hc4 => ?_) (fun hc4 => ?_)
    · have hf := ite_yes hc4 hf
      refine r_iinc (lv2 := [(3, mI (x3 + 1)), (0, .ref (ad 0)), (1, mI x1), (2, mI x2)]) X 3 dX12_fairOf_32 rfl (by decide) rfl ?_
      refine r_goto (tgt := 4) X dX12_fairOf_35 (by decide) ?_
      refine r_perm (lv2 := [(0, .ref (ad 0)), (1, mI x1), (2, mI x2), (3, mI (x3 + 1))]) [1, 2, 3, 0] rfl ?_
      exact hkc _ _ _ _ hf
    · have hf := ite_no hc4 hf
      refine r_aload_n X 0 dX12_fairOf_25 rfl rfl ?_
      refine r_getR X fl_12_94 k_M_0_36 dX12_fairOf_26 ?_
      refine r_iload_n X 3 dX12_fairOf_29 rfl rfl ?_
      obtain ⟨hg5, hf⟩ := gd_some hf
      refine r_iald X a_M_26 hg5 dX12_fairOf_30 ?_
      refine r_istore_n (lv2 := [(2, mI (q2.2 26 (ix x3))), (0, .ref (ad 0)), (1, mI x1), (3, mI x3)]) X dX12_fairOf_31 rfl (by decide) rfl ?_
      refine r_iinc (lv2 := [(3, mI (x3 + 1)), (2, mI (q2.2 26 (ix x3))), (0, .ref (ad 0)), (1, mI x1)]) X 3 dX12_fairOf_32 rfl (by decide) rfl ?_
      refine r_goto (tgt := 4) X dX12_fairOf_35 (by decide) ?_
      refine r_perm (lv2 := [(0, .ref (ad 0)), (1, mI x1), (2, mI (q2.2 26 (ix x3))), (3, mI (x3 + 1))]) [2, 3, 1, 0] rfl ?_
      exact hkc _ _ _ _ hf
set_option maxRecDepth 100000 in
set_option maxHeartbeats 4000000 in
theorem l_M_fairOf_4_ok {p : Program} {l : Launch} {e : Env} {s : State} {m : MethodId} {args : Array Value} {below : List Frame} {meth : Method} {c : Code} {D : va_G} {cy : Nat → ClassId} {ad : Nat → Nat} (X : CX p s m args meth c cX12_fairOf RX12 10 none D shM cy ad (aw shM ad)) {F : Nat} {k38 : St → Int → Int → Option (St)} {q : St} (hk38 : ∀ sg x1 x2, k38 sg x1 x2 = some q → GG p l e rm_M_fairOf s m args below meth c (QV D shM cy ad below args s q) D shM cy ad (aw shM ad) 10 38 [(0, .ref (ad 0)), (1, mI x1), (2, mI x2)] [] sg) : ∀ (n : Nat) (sg : St) (x1 x2 x3 : Int), l_M_fairOf_4  F k38 n sg x1 x2 x3 = some q → GG p l e rm_M_fairOf s m args below meth c (QV D shM cy ad below args s q) D shM cy ad (aw shM ad) 10 4 [(0, .ref (ad 0)), (1, mI x1), (2, mI x2), (3, mI x3)] [] sg := by
  intro n
  induction n with
  | zero => intro sg x1 x2 x3 h; cases h
  | succ n ih => exact fun sg x1 x2 x3 h => b_M_fairOf_4_ok X ih hk38 h
set_option maxRecDepth 100000 in
set_option maxHeartbeats 4000000 in
theorem b_M_fairOf_149_ok {p : Program} {l : Launch} {e : Env} {s : State} {m : MethodId} {args : Array Value} {below : List Frame} {meth : Method} {c : Code} {D : va_G} {cy : Nat → ClassId} {ad : Nat → Nat} (X : CX p s m args meth c cX12_fairOf RX12 10 none D shM cy ad (aw shM ad)) {F : Nat} {q : St} {sg : St} {x3 x6 x8 : Int} (hf : b_M_fairOf_149  F  sg x3 x6 x8 = some q) : GG p l e rm_M_fairOf s m args below meth c (QV D shM cy ad below args s q) D shM cy ad (aw shM ad) 10 149 [(0, .ref (ad 0)), (3, mL x3), (6, mL x6), (8, mL x8)] [] sg := by
  refine r_aload_n X 0 dX12_fairOf_149 rfl rfl ?_
  refine r_lload_n X 1 dX12_fairOf_150 rfl rfl ?_
  refine r_lload X 3 dX12_fairOf_151 rfl ?_
  obtain ⟨hg1, hf⟩ := gd_some hf
  refine r_ldiv X hg1 dX12_fairOf_153 ?_
  refine r_putL X fp_12_305 k_M_0_79 rfl rfl dX12_fairOf_154 ?_
  refine r_aload_n X 0 dX12_fairOf_157 rfl rfl ?_
  refine r_lload X 2 dX12_fairOf_158 rfl ?_
  refine r_lload X 3 dX12_fairOf_160 rfl ?_
  obtain ⟨hg3, hf⟩ := gd_some hf
  refine r_ldiv X hg3 dX12_fairOf_162 ?_
  refine r_putL X fp_12_308 k_M_0_80 rfl rfl dX12_fairOf_163 ?_
  exact r_vreturn X hf dX12_fairOf_166
set_option maxRecDepth 100000 in
set_option maxHeartbeats 4000000 in
theorem c_M_fairOf {l : Launch} {F : Nat} {sg : St} {x1 : Int} {q : St} (hf : f_M_fairOf F  sg x1 = some q) : MV l shM yX12_fairOf cX12_fairOf 10 none rm_M_fairOf (fun ad => [.ref (ad 0), mI x1]) sg q := by
  refine mk_v (by decide) (fun _ => Nat.le_of_ble_eq_true rfl) (fun p e s m args below meth c D cy ad X => ?_)
  have X : CX p s m args meth c cX12_fairOf RX12 10 none D shM cy ad (aw shM ad) := X
  refine r_perm (lv2 := [(0, .ref (ad 0)), (1, mI x1)]) [0, 1] rfl ?_
  refine r_iconst X dX12_fairOf_0 ?_
  refine r_istore_n (lv2 := [(2, mI (-1)), (0, .ref (ad 0)), (1, mI x1)]) X dX12_fairOf_1 rfl (by decide) rfl ?_
  refine r_iconst X dX12_fairOf_2 ?_
  refine r_istore_n (lv2 := [(3, mI 0), (2, mI (-1)), (0, .ref (ad 0)), (1, mI x1)]) X dX12_fairOf_3 rfl (by decide) rfl ?_
  refine r_perm (lv2 := [(0, .ref (ad 0)), (1, mI x1), (2, mI (-1)), (3, mI 0)]) [2, 3, 1, 0] rfl ?_
  refine l_M_fairOf_4_ok X ?_ F _ _ _ _ hf
  · intro s1 x1_2 x2_3 hf
    refine r_aload_n X 0 dX12_fairOf_38 rfl rfl ?_
    refine r_iload_n X 2 dX12_fairOf_39 rfl rfl ?_
    obtain ⟨q4, hq4, hf⟩ := bd_some hf
    refine r_callVV X (As := [mI x2_3]) (st := []) (as := fun ad => [.ref (ad 0), mI x2_3]) (c_M_solve hq4) rfl yw_X12_solve yv_X12_solve ml_RX12_298 o_M_0 rfl rfl ⟨rfl, rfl⟩ ⟨Nat.le_of_ble_eq_true rfl, Nat.le_of_ble_eq_true rfl⟩ rfl rfl (Nat.le_of_ble_eq_true rfl) dX12_fairOf_40 ?_
    refine r_lconst (v := 0) X dX12_fairOf_43 (by decide) ?_
    refine r_lstore_n (lv2 := [(3, mL 0), (0, .ref (ad 0)), (1, mI x1_2), (2, mI x2_3)]) X dX12_fairOf_44 rfl (by decide) rfl ?_
    refine r_iconst X dX12_fairOf_45 ?_
    refine r_istore (lv2 := [(5, mI 0), (3, mL 0), (0, .ref (ad 0)), (1, mI x1_2), (2, mI x2_3)]) X dX12_fairOf_46 (by decide) rfl ?_
    refine r_iconst X dX12_fairOf_48 ?_
    refine r_istore (lv2 := [(6, mI 0), (5, mI 0), (3, mL 0), (0, .ref (ad 0)), (1, mI x1_2), (2, mI x2_3)]) X dX12_fairOf_49 (by decide) rfl ?_
    refine r_perm (lv2 := [(0, .ref (ad 0)), (1, mI x1_2), (3, mL 0), (5, mI 0), (6, mI 0)]) [3, 4, 2, 1, 0] rfl ?_
    refine l_M_fairOf_51_ok X ?_ F _ _ _ _ _ hf
    · intro s5 x3_6 x5_7 hf
      refine r_iload X 2 dX12_fairOf_119 rfl ?_
      refine r_i2l X dX12_fairOf_121 ?_
      refine r_aload_n X 0 dX12_fairOf_122 rfl rfl ?_
      refine r_getL X fl_12_281 k_M_0_43 dX12_fairOf_123 ?_
      refine r_lmul X dX12_fairOf_126 ?_
      refine r_lstore (lv2 := [(6, mL ((w32 x5_7) * (s5 0 43))), (0, .ref (ad 0)), (3, mL x3_6), (5, mI x5_7)]) X dX12_fairOf_127 (by decide) rfl ?_
      refine r_lload_n X 2 dX12_fairOf_129 rfl rfl ?_
      refine r_lload X 0 dX12_fairOf_130 rfl ?_
      obtain ⟨q8, hq8, hf⟩ := bd_some hf
      refine r_callSL X (As := [mL x3_6, mL ((w32 x5_7) * (s5 0 43))]) (st := []) (as := fun ad => [mL x3_6, mL ((w32 x5_7) * (s5 0 43))]) (c_M_common hq8) rfl yw_X12_common ys_X12_common ml_RX12_288 ⟨rfl, rfl⟩ ⟨Nat.le_of_ble_eq_true rfl, Nat.le_of_ble_eq_true rfl⟩ rfl rfl (Nat.le_of_ble_eq_true rfl) dX12_fairOf_132 ?_
      refine r_lstore (lv2 := [(8, mL q8.1), (6, mL ((w32 x5_7) * (s5 0 43))), (0, .ref (ad 0)), (3, mL x3_6), (5, mI x5_7)]) X dX12_fairOf_135 (by decide) rfl ?_
      refine r_lload X 1 dX12_fairOf_137 rfl ?_
      refine r_lconst (v := 0) X dX12_fairOf_139 (by decide) ?_
      refine r_lc_ge (tgt := 149) X dX12_fairOf_140 dX12_fairOf_141 (by decide) (fun hc9 => ?_) (fun hc9 => ?_)
      · have hf := ite_yes hc9 hf
        refine r_perm (lv2 := [(0, .ref (ad 0)), (3, mL x3_6), (6, mL ((w32 x5_7) * (s5 0 43))), (8, mL q8.1)]) [2, 3, 1, 0] rfl ?_
        exact b_M_fairOf_149_ok X  hf
      · have hf := ite_no hc9 hf
        refine r_lload X 0 dX12_fairOf_144 rfl ?_
        refine r_lneg X dX12_fairOf_146 ?_
        refine r_lstore (lv2 := [(8, mL (-q8.1)), (6, mL ((w32 x5_7) * (s5 0 43))), (0, .ref (ad 0)), (3, mL x3_6), (5, mI x5_7)]) X dX12_fairOf_147 (by decide) rfl ?_
        refine r_perm (lv2 := [(0, .ref (ad 0)), (3, mL x3_6), (6, mL ((w32 x5_7) * (s5 0 43))), (8, mL (-q8.1))]) [2, 3, 1, 0] rfl ?_
        exact b_M_fairOf_149_ok X  hf
set_option maxRecDepth 100000 in
set_option maxHeartbeats 4000000 in
theorem b_M_fair_59_ok {p : Program} {l : Launch} {e : Env} {s : State} {m : MethodId} {args : Array Value} {below : List Frame} {meth : Method} {c : Code} {D : va_G} {cy : Nat → ClassId} {ad : Nat → Nat} (X : CX p s m args meth c cX12_fair RX12 4 (some .boolean) D shM cy ad (aw shM ad)) {F : Nat} {kc : St → Int → Int → Option (Int × St)} {k107 : St → Int → Option (Int × St)} {q : Int × St} (hkc : ∀ sg x1 x3, kc sg x1 x3 = some q → GG p l e rm_M_fair s m args below meth c (QI D shM cy ad below args s q) D shM cy ad (aw shM ad) 4 59 [(0, .ref (ad 0)), (1, mI x1), (3, mI x3)] [] sg) (hk107 : ∀ sg x1, k107 sg x1 = some q → GG p l e rm_M_fair s m args below meth c (QI D shM cy ad below args s q) D shM cy ad (aw shM ad) 4 107 [(0, .ref (ad 0)), (1, mI x1)] [] sg) {sg : St} {x1 x3 : Int} (hf : b_M_fair_59  F kc k107 sg x1 x3 = some q) : GG p l e rm_M_fair s m args below meth c (QI D shM cy ad below args s q) D shM cy ad (aw shM ad) 4 59 [(0, .ref (ad 0)), (1, mI x1), (3, mI x3)] [] sg := by
  refine r_iload_n X 2 dX12_fair_59 rfl rfl ?_
  refine r_aload_n X 0 dX12_fair_60 rfl rfl ?_
  refine r_getI X fl_12_208 k_M_0_5 dX12_fair_61 ?_
  refine r_icmp_ge (tgt := 107) X dX12_fair_64 (by decide) (fun hc1 => ?_) (fun hc1 => ?_)
  · have hf := ite_yes hc1 hf
    refine r_perm (lv2 := [(0, .ref (ad 0)), (1, mI x1)]) [0, 1] rfl ?_
    exact hk107 _ _ hf
  · have hf := ite_no hc1 hf
    refine r_aload_n X 0 dX12_fair_67 rfl rfl ?_
    refine r_getR X fl_12_91 k_M_0_35 dX12_fair_68 ?_
    refine r_iload_n X 1 dX12_fair_71 rfl rfl ?_
    refine r_iload_n X 2 dX12_fair_72 rfl rfl ?_
    obtain ⟨q2, hq2, hf⟩ := bd_some hf
    refine r_callSI X (As := [mI x1, mI x3]) (st := [.ref (ad 25)]) (as := fun ad => [mI x1, mI x3]) (c_M_at hq2) rfl yw_X12_at ys_X12_at ml_RX12_225 ⟨rfl, rfl⟩ ⟨Nat.le_of_ble_eq_true rfl, Nat.le_of_ble_eq_true rfl⟩ rfl rfl (Nat.le_of_ble_eq_true rfl) dX12_fair_73 ?_
    obtain ⟨hg3, hf⟩ := gd_some hf
    refine r_iald X a_M_25 hg3 dX12_fair_76 ?_
    refine r_if_lt (tgt := 101) X dX12_fair_77 (by decide) (fun hc4 => ?_) (fun hc4 => ?_)
    · have hf := ite_yes hc4 hf
      refine r_iinc (lv2 := [(3, mI (x3 + 1)), (0, .ref (ad 0)), (1, mI x1)]) X 2 dX12_fair_101 rfl (by decide) rfl ?_
      refine r_goto (tgt := 59) X dX12_fair_104 (by decide) ?_
      refine r_perm (lv2 := [(0, .ref (ad 0)), (1, mI x1), (3, mI (x3 + 1))]) [1, 2, 0] rfl ?_
      exact hkc _ _ _ hf
    · have hf := ite_no hc4 hf
      refine r_aload_n X 0 dX12_fair_80 rfl rfl ?_
      refine r_aload_n X 0 dX12_fair_81 rfl rfl ?_
      refine r_getR X fl_12_94 k_M_0_36 dX12_fair_82 ?_
      refine r_iload_n X 2 dX12_fair_85 rfl rfl ?_
      obtain ⟨hg5, hf⟩ := gd_some hf
      refine r_iald X a_M_26 hg5 dX12_fair_86 ?_
      obtain ⟨q6, hq6, hf⟩ := bd_some hf
      refine r_callVI X (As := [mI (q2.2 26 (ix x3))]) (st := []) (as := fun ad => [.ref (ad 0), mI (q2.2 26 (ix x3))]) (c_M_sizeOf hq6) rfl yw_X12_sizeOf yv_X12_sizeOf ml_RX12_295 o_M_0 rfl rfl ⟨rfl, rfl⟩ ⟨Nat.le_of_ble_eq_true rfl, Nat.le_of_ble_eq_true rfl⟩ rfl rfl (Nat.le_of_ble_eq_true rfl) dX12_fair_87 ?_
      refine r_iconst X dX12_fair_90 ?_
      refine r_icmp_le (tgt := 101) X dX12_fair_91 (by decide) (fun hc7 => ?_) (fun hc7 => ?_)
      · have hf := ite_yes hc7 hf
        refine r_iinc (lv2 := [(3, mI (x3 + 1)), (0, .ref (ad 0)), (1, mI x1)]) X 2 dX12_fair_101 rfl (by decide) rfl ?_
        refine r_goto (tgt := 59) X dX12_fair_104 (by decide) ?_
        refine r_perm (lv2 := [(0, .ref (ad 0)), (1, mI x1), (3, mI (x3 + 1))]) [1, 2, 0] rfl ?_
        exact hkc _ _ _ hf
      · have hf := ite_no hc7 hf
        refine r_aload_n X 0 dX12_fair_94 rfl rfl ?_
        refine r_bipush X dX12_fair_95 (by decide) ?_
        obtain ⟨q8, hq8, hf⟩ := bd_some hf
        refine r_callVI X (As := [mI 9]) (st := []) (as := fun ad => [.ref (ad 0), mI 9]) (c_M_no hq8) rfl yw_X12_no yv_X12_no ml_RX12_222 o_M_0 rfl rfl ⟨rfl, rfl⟩ ⟨Nat.le_of_ble_eq_true rfl, Nat.le_of_ble_eq_true rfl⟩ rfl rfl (Nat.le_of_ble_eq_true rfl) dX12_fair_97 ?_
        obtain ⟨hz9, hf⟩ := gd_some hf
        exact r_zreturn X hf (zn_of hz9) dX12_fair_100
set_option maxRecDepth 100000 in
set_option maxHeartbeats 4000000 in
theorem l_M_fair_59_ok {p : Program} {l : Launch} {e : Env} {s : State} {m : MethodId} {args : Array Value} {below : List Frame} {meth : Method} {c : Code} {D : va_G} {cy : Nat → ClassId} {ad : Nat → Nat} (X : CX p s m args meth c cX12_fair RX12 4 (some .boolean) D shM cy ad (aw shM ad)) {F : Nat} {k107 : St → Int → Option (Int × St)} {q : Int × St} (hk107 : ∀ sg x1, k107 sg x1 = some q → GG p l e rm_M_fair s m args below meth c (QI D shM cy ad below args s q) D shM cy ad (aw shM ad) 4 107 [(0, .ref (ad 0)), (1, mI x1)] [] sg) : ∀ (n : Nat) (sg : St) (x1 x3 : Int), l_M_fair_59  F k107 n sg x1 x3 = some q → GG p l e rm_M_fair s m args below meth c (QI D shM cy ad below args s q) D shM cy ad (aw shM ad) 4 59 [(0, .ref (ad 0)), (1, mI x1), (3, mI x3)] [] sg := by
  intro n
  induction n with
  | zero => intro sg x1 x3 h; cases h
  | succ n ih => exact fun sg x1 x3 h => b_M_fair_59_ok X ih hk107 h
set_option maxRecDepth 100000 in
set_option maxHeartbeats 4000000 in
theorem c_M_fair {l : Launch} {F : Nat} {sg : St} {x1 x2 : Int} {q : Int × St} (hf : f_M_fair F  sg x1 x2 = some q) : MI l shM yX12_fair cX12_fair 4 (some .boolean) rm_M_fair (fun ad => [.ref (ad 0), mI x1, mI x2]) sg q.2 q.1 := by
  refine mk_i (by decide) (fun _ => Nat.le_of_ble_eq_true rfl) (fun p e s m args below meth c D cy ad X => ?_)
  have X : CX p s m args meth c cX12_fair RX12 4 (some .boolean) D shM cy ad (aw shM ad) := X
  refine r_perm (lv2 := [(0, .ref (ad 0)), (1, mI x1), (2, mI x2)]) [0, 1, 2] rfl ?_
  refine r_aload_n X 0 dX12_fair_0 rfl rfl ?_
  refine r_iconst X dX12_fair_1 ?_
  refine r_putI X fp_12_195 k_M_0_1 rfl rfl dX12_fair_2 ?_
  refine r_aload_n X 0 dX12_fair_5 rfl rfl ?_
  refine r_iconst X dX12_fair_6 ?_
  refine r_putI X fp_12_198 k_M_0_0 rfl rfl dX12_fair_7 ?_
  refine r_aload_n X 0 dX12_fair_10 rfl rfl ?_
  refine r_iload_n X 1 dX12_fair_11 rfl rfl ?_
  obtain ⟨q3, hq3, hf⟩ := bd_some hf
  refine r_callVI X (As := [mI x1]) (st := []) (as := fun ad => [.ref (ad 0), mI x1]) (c_M_isBoard hq3) rfl yw_X12_isBoard yv_X12_isBoard ml_RX12_211 o_M_0 rfl rfl ⟨rfl, rfl⟩ ⟨Nat.le_of_ble_eq_true rfl, Nat.le_of_ble_eq_true rfl⟩ rfl rfl (Nat.le_of_ble_eq_true rfl) dX12_fair_12 ?_
  refine r_if_ne (tgt := 24) X dX12_fair_15 (by decide) (fun hc4 => ?_) (fun hc4 => ?_)
  · have hf := ite_yes hc4 hf
    refine r_aload_n X 0 dX12_fair_18 rfl rfl ?_
    refine r_iconst X dX12_fair_19 ?_
    obtain ⟨q5, hq5, hf⟩ := bd_some hf
    refine r_callVI X (As := [mI 1]) (st := []) (as := fun ad => [.ref (ad 0), mI 1]) (c_M_no hq5) rfl yw_X12_no yv_X12_no ml_RX12_222 o_M_0 rfl rfl ⟨rfl, rfl⟩ ⟨Nat.le_of_ble_eq_true rfl, Nat.le_of_ble_eq_true rfl⟩ rfl rfl (Nat.le_of_ble_eq_true rfl) dX12_fair_20 ?_
    obtain ⟨hz6, hf⟩ := gd_some hf
    exact r_zreturn X hf (zn_of hz6) dX12_fair_23
  · have hf := ite_no hc4 hf
    refine r_iload_n X 2 dX12_fair_24 rfl rfl ?_
    obtain ⟨q7, hq7, hf⟩ := bd_some hf
    refine r_callSI X (As := [mI x2]) (st := []) (as := fun ad => [mI x2]) (c_M_isDay hq7) rfl yw_X12_isDay ys_X12_isDay ml_RX12_253 ⟨rfl, rfl⟩ ⟨Nat.le_of_ble_eq_true rfl, Nat.le_of_ble_eq_true rfl⟩ rfl rfl (Nat.le_of_ble_eq_true rfl) dX12_fair_25 ?_
    refine r_if_ne (tgt := 37) X dX12_fair_28 (by decide) (fun hc8 => ?_) (fun hc8 => ?_)
    · have hf := ite_yes hc8 hf
      refine r_aload_n X 0 dX12_fair_31 rfl rfl ?_
      refine r_iconst X dX12_fair_32 ?_
      obtain ⟨q9, hq9, hf⟩ := bd_some hf
      refine r_callVI X (As := [mI 2]) (st := []) (as := fun ad => [.ref (ad 0), mI 2]) (c_M_no hq9) rfl yw_X12_no yv_X12_no ml_RX12_222 o_M_0 rfl rfl ⟨rfl, rfl⟩ ⟨Nat.le_of_ble_eq_true rfl, Nat.le_of_ble_eq_true rfl⟩ rfl rfl (Nat.le_of_ble_eq_true rfl) dX12_fair_33 ?_
      obtain ⟨hz10, hf⟩ := gd_some hf
      exact r_zreturn X hf (zn_of hz10) dX12_fair_36
    · have hf := ite_no hc8 hf
      refine r_aload_n X 0 dX12_fair_37 rfl rfl ?_
      refine r_iload_n X 2 dX12_fair_38 rfl rfl ?_
      obtain ⟨q11, hq11, hf⟩ := bd_some hf
      refine r_callVV X (As := [mI x2]) (st := []) (as := fun ad => [.ref (ad 0), mI x2]) (c_M_known hq11) rfl yw_X12_known yv_X12_known ml_RX12_264 o_M_0 rfl rfl ⟨rfl, rfl⟩ ⟨Nat.le_of_ble_eq_true rfl, Nat.le_of_ble_eq_true rfl⟩ rfl rfl (Nat.le_of_ble_eq_true rfl) dX12_fair_39 ?_
      refine r_aload_n X 0 dX12_fair_42 rfl rfl ?_
      refine r_iload_n X 1 dX12_fair_43 rfl rfl ?_
      obtain ⟨q12, hq12, hf⟩ := bd_some hf
      refine r_callVI X (As := [mI x1]) (st := []) (as := fun ad => [.ref (ad 0), mI x1]) (c_M_countOf hq12) rfl yw_X12_countOf yv_X12_countOf ml_RX12_267 o_M_0 rfl rfl ⟨rfl, rfl⟩ ⟨Nat.le_of_ble_eq_true rfl, Nat.le_of_ble_eq_true rfl⟩ rfl rfl (Nat.le_of_ble_eq_true rfl) dX12_fair_44 ?_
      refine r_if_ne (tgt := 57) X dX12_fair_47 (by decide) (fun hc13 => ?_) (fun hc13 => ?_)
      · have hf := ite_yes hc13 hf
        refine r_aload_n X 0 dX12_fair_50 rfl rfl ?_
        refine r_bipush X dX12_fair_51 (by decide) ?_
        obtain ⟨q14, hq14, hf⟩ := bd_some hf
        refine r_callVI X (As := [mI 6]) (st := []) (as := fun ad => [.ref (ad 0), mI 6]) (c_M_no hq14) rfl yw_X12_no yv_X12_no ml_RX12_222 o_M_0 rfl rfl ⟨rfl, rfl⟩ ⟨Nat.le_of_ble_eq_true rfl, Nat.le_of_ble_eq_true rfl⟩ rfl rfl (Nat.le_of_ble_eq_true rfl) dX12_fair_53 ?_
        obtain ⟨hz15, hf⟩ := gd_some hf
        exact r_zreturn X hf (zn_of hz15) dX12_fair_56
      · have hf := ite_no hc13 hf
        refine r_iconst X dX12_fair_57 ?_
        refine r_istore_n (lv2 := [(3, mI 0), (0, .ref (ad 0)), (1, mI x1), (2, mI x2)]) X dX12_fair_58 rfl (by decide) rfl ?_
        refine r_perm (lv2 := [(0, .ref (ad 0)), (1, mI x1), (3, mI 0)]) [1, 2, 0] rfl ?_
        refine l_M_fair_59_ok X ?_ F _ _ _ hf
        · intro s16 x1_17 hf
          refine r_aload_n X 0 dX12_fair_107 rfl rfl ?_
          refine r_iload_n X 1 dX12_fair_108 rfl rfl ?_
          obtain ⟨q18, hq18, hf⟩ := bd_some hf
          refine r_callVV X (As := [mI x1_17]) (st := []) (as := fun ad => [.ref (ad 0), mI x1_17]) (c_M_fairOf hq18) rfl yw_X12_fairOf yv_X12_fairOf ml_RX12_311 o_M_0 rfl rfl ⟨rfl, rfl⟩ ⟨Nat.le_of_ble_eq_true rfl, Nat.le_of_ble_eq_true rfl⟩ rfl rfl (Nat.le_of_ble_eq_true rfl) dX12_fair_109 ?_
          refine r_aload_n X 0 dX12_fair_112 rfl rfl ?_
          refine r_aload_n X 0 dX12_fair_113 rfl rfl ?_
          refine r_getL X fl_12_305 k_M_0_79 dX12_fair_114 ?_
          refine r_putL X fp_12_292 k_M_0_2 rfl rfl dX12_fair_117 ?_
          refine r_aload_n X 0 dX12_fair_120 rfl rfl ?_
          refine r_aload_n X 0 dX12_fair_121 rfl rfl ?_
          refine r_getL X fl_12_308 k_M_0_80 dX12_fair_122 ?_
          refine r_putL X fp_12_7 k_M_0_3 rfl rfl dX12_fair_125 ?_
          refine r_iconst X dX12_fair_128 ?_
          exact r_zreturn X hf rfl dX12_fair_129
set_option maxRecDepth 100000 in
set_option maxHeartbeats 4000000 in
theorem c_M_upper {l : Launch} {sg : St} {q : Int × St} (hf : f_M_upper  sg  = some q) : ML l shM yX12_upper cX12_upper 1 (some .long) rm_M_upper (fun ad => [.ref (ad 0)]) sg q.2 q.1 := by
  refine mk_l (by decide) (fun _ => Nat.le_of_ble_eq_true rfl) (fun p e s m args below meth c D cy ad X => ?_)
  have X : CX p s m args meth c cX12_upper RX12 1 (some .long) D shM cy ad (aw shM ad) := X
  refine r_perm (lv2 := [(0, .ref (ad 0))]) [0] rfl ?_
  refine r_aload_n X 0 dX12_upper_0 rfl rfl ?_
  refine r_iconst X dX12_upper_1 ?_
  refine r_putI X fp_12_195 k_M_0_1 rfl rfl dX12_upper_2 ?_
  refine r_aload_n X 0 dX12_upper_5 rfl rfl ?_
  refine r_getL X fl_12_292 k_M_0_2 dX12_upper_6 ?_
  exact r_lreturn X hf dX12_upper_9
set_option maxRecDepth 100000 in
set_option maxHeartbeats 4000000 in
theorem c_M_lower {l : Launch} {sg : St} {q : Int × St} (hf : f_M_lower  sg  = some q) : ML l shM yX12_lower cX12_lower 1 (some .long) rm_M_lower (fun ad => [.ref (ad 0)]) sg q.2 q.1 := by
  refine mk_l (by decide) (fun _ => Nat.le_of_ble_eq_true rfl) (fun p e s m args below meth c D cy ad X => ?_)
  have X : CX p s m args meth c cX12_lower RX12 1 (some .long) D shM cy ad (aw shM ad) := X
  refine r_perm (lv2 := [(0, .ref (ad 0))]) [0] rfl ?_
  refine r_aload_n X 0 dX12_lower_0 rfl rfl ?_
  refine r_iconst X dX12_lower_1 ?_
  refine r_putI X fp_12_195 k_M_0_1 rfl rfl dX12_lower_2 ?_
  refine r_aload_n X 0 dX12_lower_5 rfl rfl ?_
  refine r_getL X fl_12_7 k_M_0_3 dX12_lower_6 ?_
  exact r_lreturn X hf dX12_lower_9
set_option maxRecDepth 100000 in
set_option maxHeartbeats 4000000 in
theorem c_M_look {l : Launch} {sg : St} {x1 : Int} {q : Int × St} (hf : f_M_look  sg x1 = some q) : MI l shM yX12_look cX12_look 2 (some .int) rm_M_look (fun ad => [.ref (ad 0), mI x1]) sg q.2 q.1 := by
  refine mk_i (by decide) (fun _ => Nat.le_of_ble_eq_true rfl) (fun p e s m args below meth c D cy ad X => ?_)
  have X : CX p s m args meth c cX12_look RX12 2 (some .int) D shM cy ad (aw shM ad) := X
  refine r_perm (lv2 := [(0, .ref (ad 0)), (1, mI x1)]) [0, 1] rfl ?_
  refine r_iload_n X 1 dX12_look_0 rfl rfl ?_
  refine r_aload_n X 0 dX12_look_1 rfl rfl ?_
  refine r_getI X fl_12_314 k_M_0_46 dX12_look_2 ?_
  refine r_icmp_ge (tgt := 21) X dX12_look_5 (by decide) (fun hc1 => ?_) (fun hc1 => ?_)
  · have hf := ite_yes hc1 hf
    refine r_iconst X dX12_look_21 ?_
    exact r_ireturn X hf dX12_look_22
  · have hf := ite_no hc1 hf
    refine r_aload_n X 0 dX12_look_8 rfl rfl ?_
    refine r_getR X fl_12_113 k_M_0_44 dX12_look_9 ?_
    refine r_iload_n X 1 dX12_look_12 rfl rfl ?_
    obtain ⟨hg2, hf⟩ := gd_some hf
    refine r_bald X a_M_32 hg2 dX12_look_13 ?_
    refine r_sipush X dX12_look_14 (by decide) ?_
    refine r_iand X dX12_look_17 ?_
    refine r_goto (tgt := 22) X dX12_look_18 (by decide) ?_
    exact r_ireturn X hf dX12_look_22
set_option maxRecDepth 100000 in
set_option maxHeartbeats 4000000 in
theorem c_M_isLetter {l : Launch} {sg : St} {x0 : Int} {q : Int × St} (hf : f_M_isLetter  sg x0 = some q) : MI l shM yX12_isLetter cX12_isLetter 1 (some .boolean) rm_M_isLetter (fun ad => [mI x0]) sg q.2 q.1 := by
  refine mk_i (by decide) (fun _ => Nat.le_of_ble_eq_true rfl) (fun p e s m args below meth c D cy ad X => ?_)
  have X : CX p s m args meth c cX12_isLetter RX12 1 (some .boolean) D shM cy ad (aw shM ad) := X
  refine r_perm (lv2 := [(0, mI x0)]) [0] rfl ?_
  refine r_iload_n X 0 dX12_isLetter_0 rfl rfl ?_
  refine r_bipush X dX12_isLetter_1 (by decide) ?_
  refine r_icmp_lt (tgt := 16) X dX12_isLetter_3 (by decide) (fun hc1 => ?_) (fun hc1 => ?_)
  · have hf := ite_yes hc1 hf
    refine r_iconst X dX12_isLetter_16 ?_
    exact r_zreturn X hf rfl dX12_isLetter_17
  · have hf := ite_no hc1 hf
    refine r_iload_n X 0 dX12_isLetter_6 rfl rfl ?_
    refine r_bipush X dX12_isLetter_7 (by decide) ?_
    refine r_icmp_gt (tgt := 16) X dX12_isLetter_9 (by decide) (fun hc2 => ?_) (fun hc2 => ?_)
    · have hf := ite_yes hc2 hf
      refine r_iconst X dX12_isLetter_16 ?_
      exact r_zreturn X hf rfl dX12_isLetter_17
    · have hf := ite_no hc2 hf
      refine r_iconst X dX12_isLetter_12 ?_
      refine r_goto (tgt := 17) X dX12_isLetter_13 (by decide) ?_
      exact r_zreturn X hf rfl dX12_isLetter_17
set_option maxRecDepth 100000 in
set_option maxHeartbeats 4000000 in
theorem c_M_isDigit {l : Launch} {sg : St} {x0 : Int} {q : Int × St} (hf : f_M_isDigit  sg x0 = some q) : MI l shM yX12_isDigit cX12_isDigit 1 (some .boolean) rm_M_isDigit (fun ad => [mI x0]) sg q.2 q.1 := by
  refine mk_i (by decide) (fun _ => Nat.le_of_ble_eq_true rfl) (fun p e s m args below meth c D cy ad X => ?_)
  have X : CX p s m args meth c cX12_isDigit RX12 1 (some .boolean) D shM cy ad (aw shM ad) := X
  refine r_perm (lv2 := [(0, mI x0)]) [0] rfl ?_
  refine r_iload_n X 0 dX12_isDigit_0 rfl rfl ?_
  refine r_bipush X dX12_isDigit_1 (by decide) ?_
  refine r_icmp_lt (tgt := 16) X dX12_isDigit_3 (by decide) (fun hc1 => ?_) (fun hc1 => ?_)
  · have hf := ite_yes hc1 hf
    refine r_iconst X dX12_isDigit_16 ?_
    exact r_zreturn X hf rfl dX12_isDigit_17
  · have hf := ite_no hc1 hf
    refine r_iload_n X 0 dX12_isDigit_6 rfl rfl ?_
    refine r_bipush X dX12_isDigit_7 (by decide) ?_
    refine r_icmp_gt (tgt := 16) X dX12_isDigit_9 (by decide) (fun hc2 => ?_) (fun hc2 => ?_)
    · have hf := ite_yes hc2 hf
      refine r_iconst X dX12_isDigit_16 ?_
      exact r_zreturn X hf rfl dX12_isDigit_17
    · have hf := ite_no hc2 hf
      refine r_iconst X dX12_isDigit_12 ?_
      refine r_goto (tgt := 17) X dX12_isDigit_13 (by decide) ?_
      exact r_zreturn X hf rfl dX12_isDigit_17
set_option maxRecDepth 100000 in
set_option maxHeartbeats 4000000 in
theorem b_M_next_244_ok {p : Program} {l : Launch} {e : Env} {s : State} {m : MethodId} {args : Array Value} {below : List Frame} {meth : Method} {c : Code} {D : va_G} {cy : Nat → ClassId} {ad : Nat → Nat} (X : CX p s m args meth c cX12_next RX12 2 none D shM cy ad (aw shM ad)) {F : Nat} {kc : St → Option (St)} {k257 : St → Option (St)} {q : St} (hkc : ∀ sg , kc sg  = some q → GG p l e rm_M_next s m args below meth c (QV D shM cy ad below args s q) D shM cy ad (aw shM ad) 2 194 [(0, .ref (ad 0))] [] sg) (hk257 : ∀ sg , k257 sg  = some q → GG p l e rm_M_next s m args below meth c (QV D shM cy ad below args s q) D shM cy ad (aw shM ad) 2 257 [(0, .ref (ad 0))] [] sg) {sg : St} (hf : b_M_next_244  F kc k257 sg  = some q) : GG p l e rm_M_next s m args below meth c (QV D shM cy ad below args s q) D shM cy ad (aw shM ad) 2 244 [(0, .ref (ad 0))] [] sg := by
  refine r_aload_n X 0 dX12_next_244 rfl rfl ?_
  refine r_dup X dX12_next_245 rfl ?_
  refine r_getI X fl_12_317 k_M_0_83 dX12_next_246 ?_
  refine r_iconst X dX12_next_249 ?_
  refine r_iadd X dX12_next_250 ?_
  refine r_putI X fp_12_317 k_M_0_83 rfl rfl dX12_next_251 ?_
  refine r_goto (tgt := 194) X dX12_next_254 (by decide) ?_
  exact hkc _ hf
set_option maxRecDepth 100000 in
set_option maxHeartbeats 4000000 in
theorem b_M_next_194_ok {p : Program} {l : Launch} {e : Env} {s : State} {m : MethodId} {args : Array Value} {below : List Frame} {meth : Method} {c : Code} {D : va_G} {cy : Nat → ClassId} {ad : Nat → Nat} (X : CX p s m args meth c cX12_next RX12 2 none D shM cy ad (aw shM ad)) {F : Nat} {kc : St → Option (St)} {k257 : St → Option (St)} {q : St} (hkc : ∀ sg , kc sg  = some q → GG p l e rm_M_next s m args below meth c (QV D shM cy ad below args s q) D shM cy ad (aw shM ad) 2 194 [(0, .ref (ad 0))] [] sg) (hk257 : ∀ sg , k257 sg  = some q → GG p l e rm_M_next s m args below meth c (QV D shM cy ad below args s q) D shM cy ad (aw shM ad) 2 257 [(0, .ref (ad 0))] [] sg) {sg : St} (hf : b_M_next_194  F kc k257 sg  = some q) : GG p l e rm_M_next s m args below meth c (QV D shM cy ad below args s q) D shM cy ad (aw shM ad) 2 194 [(0, .ref (ad 0))] [] sg := by
  refine r_aload_n X 0 dX12_next_194 rfl rfl ?_
  refine r_aload_n X 0 dX12_next_195 rfl rfl ?_
  refine r_getI X fl_12_317 k_M_0_83 dX12_next_196 ?_
  obtain ⟨q1, hq1, hf⟩ := bd_some hf
  refine r_callVI X (As := [mI (sg 0 83)]) (st := []) (as := fun ad => [.ref (ad 0), mI (sg 0 83)]) (c_M_look hq1) rfl yw_X12_look yv_X12_look ml_RX12_323 o_M_0 rfl rfl ⟨rfl, rfl⟩ ⟨Nat.le_of_ble_eq_true rfl, Nat.le_of_ble_eq_true rfl⟩ rfl rfl (Nat.le_of_ble_eq_true rfl) dX12_next_199 ?_
  obtain ⟨q2, hq2, hf⟩ := bd_some hf
  refine r_callSI X (As := [mI q1.1]) (st := []) (as := fun ad => [mI q1.1]) (c_M_isDigit hq2) rfl yw_X12_isDigit ys_X12_isDigit ml_RX12_339 ⟨rfl, rfl⟩ ⟨Nat.le_of_ble_eq_true rfl, Nat.le_of_ble_eq_true rfl⟩ rfl rfl (Nat.le_of_ble_eq_true rfl) dX12_next_202 ?_
  refine r_if_eq (tgt := 257) X dX12_next_205 (by decide) (fun hc3 => ?_) (fun hc3 => ?_)
  · have hf := ite_yes hc3 hf
    exact hk257 _ hf
  · have hf := ite_no hc3 hf
    refine r_aload_n X 0 dX12_next_208 rfl rfl ?_
    refine r_getI X fl_12_317 k_M_0_83 dX12_next_209 ?_
    refine r_aload_n X 0 dX12_next_212 rfl rfl ?_
    refine r_getI X fl_12_320 k_M_0_82 dX12_next_213 ?_
    refine r_isub X dX12_next_216 ?_
    refine r_iconst X dX12_next_217 ?_
    refine r_icmp_ge (tgt := 244) X dX12_next_218 (by decide) (fun hc4 => ?_) (fun hc4 => ?_)
    · have hf := ite_yes hc4 hf
      exact b_M_next_244_ok X hkc hk257 hf
    · have hf := ite_no hc4 hf
      refine r_aload_n X 0 dX12_next_221 rfl rfl ?_
      refine r_bipush X dX12_next_222 (by decide) ?_
      refine r_aload_n X 0 dX12_next_224 rfl rfl ?_
      refine r_getI X fl_12_342 k_M_0_84 dX12_next_225 ?_
      refine r_imul X dX12_next_228 ?_
      refine r_aload_n X 0 dX12_next_229 rfl rfl ?_
      refine r_aload_n X 0 dX12_next_230 rfl rfl ?_
      refine r_getI X fl_12_317 k_M_0_83 dX12_next_231 ?_
      obtain ⟨q5, hq5, hf⟩ := bd_some hf
      refine r_callVI X (As := [mI (q2.2 0 83)]) (st := [mI (10 * (q2.2 0 84)), .ref (ad 0)]) (as := fun ad => [.ref (ad 0), mI (q2.2 0 83)]) (c_M_look hq5) rfl yw_X12_look yv_X12_look ml_RX12_323 o_M_0 rfl rfl ⟨rfl, rfl⟩ ⟨Nat.le_of_ble_eq_true rfl, Nat.le_of_ble_eq_true rfl⟩ rfl rfl (Nat.le_of_ble_eq_true rfl) dX12_next_234 ?_
      refine r_iadd X dX12_next_237 ?_
      refine r_bipush X dX12_next_238 (by decide) ?_
      refine r_isub X dX12_next_240 ?_
      refine r_putI X fp_12_342 k_M_0_84 rfl rfl dX12_next_241 ?_
      exact b_M_next_244_ok X hkc hk257 hf
set_option maxRecDepth 100000 in
set_option maxHeartbeats 4000000 in
theorem l_M_next_194_ok {p : Program} {l : Launch} {e : Env} {s : State} {m : MethodId} {args : Array Value} {below : List Frame} {meth : Method} {c : Code} {D : va_G} {cy : Nat → ClassId} {ad : Nat → Nat} (X : CX p s m args meth c cX12_next RX12 2 none D shM cy ad (aw shM ad)) {F : Nat} {k257 : St → Option (St)} {q : St} (hk257 : ∀ sg , k257 sg  = some q → GG p l e rm_M_next s m args below meth c (QV D shM cy ad below args s q) D shM cy ad (aw shM ad) 2 257 [(0, .ref (ad 0))] [] sg) : ∀ (n : Nat) (sg : St) , l_M_next_194  F k257 n sg  = some q → GG p l e rm_M_next s m args below meth c (QV D shM cy ad below args s q) D shM cy ad (aw shM ad) 2 194 [(0, .ref (ad 0))] [] sg := by
  intro n
  induction n with
  | zero => intro sg  h; cases h
  | succ n ih => exact fun sg  h => b_M_next_194_ok X ih hk257 h
set_option maxRecDepth 100000 in
set_option maxHeartbeats 4000000 in
theorem b_M_next_166_ok {p : Program} {l : Launch} {e : Env} {s : State} {m : MethodId} {args : Array Value} {below : List Frame} {meth : Method} {c : Code} {D : va_G} {cy : Nat → ClassId} {ad : Nat → Nat} (X : CX p s m args meth c cX12_next RX12 2 none D shM cy ad (aw shM ad)) {F : Nat} {kc : St → Option (St)} {k307 : St → Option (St)} {q : St} (hkc : ∀ sg , kc sg  = some q → GG p l e rm_M_next s m args below meth c (QV D shM cy ad below args s q) D shM cy ad (aw shM ad) 2 109 [(0, .ref (ad 0))] [] sg) (hk307 : ∀ sg , k307 sg  = some q → GG p l e rm_M_next s m args below meth c (QV D shM cy ad below args s q) D shM cy ad (aw shM ad) 2 307 [] [] sg) {sg : St} {z0 : Int} (hf : b_M_next_166  F kc k307 sg z0 = some q) : GG p l e rm_M_next s m args below meth c (QV D shM cy ad below args s q) D shM cy ad (aw shM ad) 2 166 [(0, .ref (ad 0))] [mL z0, .ref (ad 0)] sg := by
  refine r_putL X fp_12_332 k_M_0_85 rfl rfl dX12_next_166 ?_
  refine r_aload_n X 0 dX12_next_169 rfl rfl ?_
  refine r_dup X dX12_next_170 rfl ?_
  refine r_getI X fl_12_317 k_M_0_83 dX12_next_171 ?_
  refine r_iconst X dX12_next_174 ?_
  refine r_iadd X dX12_next_175 ?_
  refine r_putI X fp_12_317 k_M_0_83 rfl rfl dX12_next_176 ?_
  refine r_goto (tgt := 109) X dX12_next_179 (by decide) ?_
  exact hkc _ hf
set_option maxRecDepth 100000 in
set_option maxHeartbeats 4000000 in
theorem b_M_next_109_ok {p : Program} {l : Launch} {e : Env} {s : State} {m : MethodId} {args : Array Value} {below : List Frame} {meth : Method} {c : Code} {D : va_G} {cy : Nat → ClassId} {ad : Nat → Nat} (X : CX p s m args meth c cX12_next RX12 2 none D shM cy ad (aw shM ad)) {F : Nat} {kc : St → Option (St)} {k307 : St → Option (St)} {q : St} (hkc : ∀ sg , kc sg  = some q → GG p l e rm_M_next s m args below meth c (QV D shM cy ad below args s q) D shM cy ad (aw shM ad) 2 109 [(0, .ref (ad 0))] [] sg) (hk307 : ∀ sg , k307 sg  = some q → GG p l e rm_M_next s m args below meth c (QV D shM cy ad below args s q) D shM cy ad (aw shM ad) 2 307 [] [] sg) {sg : St} (hf : b_M_next_109  F kc k307 sg  = some q) : GG p l e rm_M_next s m args below meth c (QV D shM cy ad below args s q) D shM cy ad (aw shM ad) 2 109 [(0, .ref (ad 0))] [] sg := by
  refine r_aload_n X 0 dX12_next_109 rfl rfl ?_
  refine r_aload_n X 0 dX12_next_110 rfl rfl ?_
  refine r_getI X fl_12_317 k_M_0_83 dX12_next_111 ?_
  obtain ⟨q1, hq1, hf⟩ := bd_some hf
  refine r_callVI X (As := [mI (sg 0 83)]) (st := []) (as := fun ad => [.ref (ad 0), mI (sg 0 83)]) (c_M_look hq1) rfl yw_X12_look yv_X12_look ml_RX12_323 o_M_0 rfl rfl ⟨rfl, rfl⟩ ⟨Nat.le_of_ble_eq_true rfl, Nat.le_of_ble_eq_true rfl⟩ rfl rfl (Nat.le_of_ble_eq_true rfl) dX12_next_114 ?_
  obtain ⟨q2, hq2, hf⟩ := bd_some hf
  refine r_callSI X (As := [mI q1.1]) (st := []) (as := fun ad => [mI q1.1]) (c_M_isLetter hq2) rfl yw_X12_isLetter ys_X12_isLetter ml_RX12_329 ⟨rfl, rfl⟩ ⟨Nat.le_of_ble_eq_true rfl, Nat.le_of_ble_eq_true rfl⟩ rfl rfl (Nat.le_of_ble_eq_true rfl) dX12_next_117 ?_
  refine r_if_eq (tgt := 307) X dX12_next_120 (by decide) (fun hc3 => ?_) (fun hc3 => ?_)
  · have hf := ite_yes hc3 hf
    refine r_perm (lv2 := []) [] rfl ?_
    exact hk307 _ hf
  · have hf := ite_no hc3 hf
    refine r_aload_n X 0 dX12_next_123 rfl rfl ?_
    refine r_aload_n X 0 dX12_next_124 rfl rfl ?_
    refine r_getI X fl_12_317 k_M_0_83 dX12_next_125 ?_
    refine r_aload_n X 0 dX12_next_128 rfl rfl ?_
    refine r_getI X fl_12_320 k_M_0_82 dX12_next_129 ?_
    refine r_isub X dX12_next_132 ?_
    refine r_bipush X dX12_next_133 (by decide) ?_
    refine r_icmp_ge (tgt := 163) X dX12_next_135 (by decide) (fun hc4 => ?_) (fun hc4 => ?_)
    · have hf := ite_yes hc4 hf
      refine r_ldc2 X cst_RX12_273 dX12_next_163 ?_
      exact b_M_next_166_ok X hkc hk307 hf
    · have hf := ite_no hc4 hf
      refine r_aload_n X 0 dX12_next_138 rfl rfl ?_
      refine r_getL X fl_12_332 k_M_0_85 dX12_next_139 ?_
      refine r_ldc2 X cst_RX12_335 dX12_next_142 ?_
      refine r_lmul X dX12_next_145 ?_
      refine r_aload_n X 0 dX12_next_146 rfl rfl ?_
      refine r_aload_n X 0 dX12_next_147 rfl rfl ?_
      refine r_getI X fl_12_317 k_M_0_83 dX12_next_148 ?_
      obtain ⟨q5, hq5, hf⟩ := bd_some hf
      refine r_callVI X (As := [mI (q2.2 0 83)]) (st := [mL ((q2.2 0 85) * 32), .ref (ad 0)]) (as := fun ad => [.ref (ad 0), mI (q2.2 0 83)]) (c_M_look hq5) rfl yw_X12_look yv_X12_look ml_RX12_323 o_M_0 rfl rfl ⟨rfl, rfl⟩ ⟨Nat.le_of_ble_eq_true rfl, Nat.le_of_ble_eq_true rfl⟩ rfl rfl (Nat.le_of_ble_eq_true rfl) dX12_next_151 ?_
      refine r_i2l X dX12_next_154 ?_
      refine r_ladd X dX12_next_155 ?_
      refine r_ldc2 X cst_RX12_337 dX12_next_156 ?_
      refine r_lsub X dX12_next_159 ?_
      refine r_goto (tgt := 166) X dX12_next_160 (by decide) ?_
      exact b_M_next_166_ok X hkc hk307 hf
set_option maxRecDepth 100000 in
set_option maxHeartbeats 4000000 in
theorem l_M_next_109_ok {p : Program} {l : Launch} {e : Env} {s : State} {m : MethodId} {args : Array Value} {below : List Frame} {meth : Method} {c : Code} {D : va_G} {cy : Nat → ClassId} {ad : Nat → Nat} (X : CX p s m args meth c cX12_next RX12 2 none D shM cy ad (aw shM ad)) {F : Nat} {k307 : St → Option (St)} {q : St} (hk307 : ∀ sg , k307 sg  = some q → GG p l e rm_M_next s m args below meth c (QV D shM cy ad below args s q) D shM cy ad (aw shM ad) 2 307 [] [] sg) : ∀ (n : Nat) (sg : St) , l_M_next_109  F k307 n sg  = some q → GG p l e rm_M_next s m args below meth c (QV D shM cy ad below args s q) D shM cy ad (aw shM ad) 2 109 [(0, .ref (ad 0))] [] sg := by
  intro n
  induction n with
  | zero => intro sg  h; cases h
  | succ n ih => exact fun sg  h => b_M_next_109_ok X ih hk307 h
set_option maxRecDepth 100000 in
set_option maxHeartbeats 4000000 in
theorem b_M_next_45_ok {p : Program} {l : Launch} {e : Env} {s : State} {m : MethodId} {args : Array Value} {below : List Frame} {meth : Method} {c : Code} {D : va_G} {cy : Nat → ClassId} {ad : Nat → Nat} (X : CX p s m args meth c cX12_next RX12 2 none D shM cy ad (aw shM ad)) {F : Nat} {kc : St → Option (St)} {k58 : St → Option (St)} {q : St} (hkc : ∀ sg , kc sg  = some q → GG p l e rm_M_next s m args below meth c (QV D shM cy ad below args s q) D shM cy ad (aw shM ad) 2 8 [(0, .ref (ad 0))] [] sg) (hk58 : ∀ sg , k58 sg  = some q → GG p l e rm_M_next s m args below meth c (QV D shM cy ad below args s q) D shM cy ad (aw shM ad) 2 58 [(0, .ref (ad 0))] [] sg) {sg : St} (hf : b_M_next_45  F kc k58 sg  = some q) : GG p l e rm_M_next s m args below meth c (QV D shM cy ad below args s q) D shM cy ad (aw shM ad) 2 45 [(0, .ref (ad 0))] [] sg := by
  refine r_aload_n X 0 dX12_next_45 rfl rfl ?_
  refine r_dup X dX12_next_46 rfl ?_
  refine r_getI X fl_12_320 k_M_0_82 dX12_next_47 ?_
  refine r_iconst X dX12_next_50 ?_
  refine r_iadd X dX12_next_51 ?_
  refine r_putI X fp_12_320 k_M_0_82 rfl rfl dX12_next_52 ?_
  refine r_goto (tgt := 8) X dX12_next_55 (by decide) ?_
  exact hkc _ hf
set_option maxRecDepth 100000 in
set_option maxHeartbeats 4000000 in
theorem b_M_next_8_ok {p : Program} {l : Launch} {e : Env} {s : State} {m : MethodId} {args : Array Value} {below : List Frame} {meth : Method} {c : Code} {D : va_G} {cy : Nat → ClassId} {ad : Nat → Nat} (X : CX p s m args meth c cX12_next RX12 2 none D shM cy ad (aw shM ad)) {F : Nat} {kc : St → Option (St)} {k58 : St → Option (St)} {q : St} (hkc : ∀ sg , kc sg  = some q → GG p l e rm_M_next s m args below meth c (QV D shM cy ad below args s q) D shM cy ad (aw shM ad) 2 8 [(0, .ref (ad 0))] [] sg) (hk58 : ∀ sg , k58 sg  = some q → GG p l e rm_M_next s m args below meth c (QV D shM cy ad below args s q) D shM cy ad (aw shM ad) 2 58 [(0, .ref (ad 0))] [] sg) {sg : St} (hf : b_M_next_8  F kc k58 sg  = some q) : GG p l e rm_M_next s m args below meth c (QV D shM cy ad below args s q) D shM cy ad (aw shM ad) 2 8 [(0, .ref (ad 0))] [] sg := by
  refine r_aload_n X 0 dX12_next_8 rfl rfl ?_
  refine r_getI X fl_12_320 k_M_0_82 dX12_next_9 ?_
  refine r_aload_n X 0 dX12_next_12 rfl rfl ?_
  refine r_getI X fl_12_314 k_M_0_46 dX12_next_13 ?_
  refine r_icmp_ge (tgt := 58) X dX12_next_16 (by decide) (fun hc1 => ?_) (fun hc1 => ?_)
  · have hf := ite_yes hc1 hf
    exact hk58 _ hf
  · have hf := ite_no hc1 hf
    refine r_aload_n X 0 dX12_next_19 rfl rfl ?_
    refine r_aload_n X 0 dX12_next_20 rfl rfl ?_
    refine r_getI X fl_12_320 k_M_0_82 dX12_next_21 ?_
    obtain ⟨q2, hq2, hf⟩ := bd_some hf
    refine r_callVI X (As := [mI (sg 0 82)]) (st := []) (as := fun ad => [.ref (ad 0), mI (sg 0 82)]) (c_M_look hq2) rfl yw_X12_look yv_X12_look ml_RX12_323 o_M_0 rfl rfl ⟨rfl, rfl⟩ ⟨Nat.le_of_ble_eq_true rfl, Nat.le_of_ble_eq_true rfl⟩ rfl rfl (Nat.le_of_ble_eq_true rfl) dX12_next_24 ?_
    refine r_bipush X dX12_next_27 (by decide) ?_
    refine r_icmp_eq (tgt := 45) X dX12_next_29 (by decide) (fun hc3 => ?_) (fun hc3 => ?_)
    · have hf := ite_yes hc3 hf
      exact b_M_next_45_ok X hkc hk58 hf
    · have hf := ite_no hc3 hf
      refine r_aload_n X 0 dX12_next_32 rfl rfl ?_
      refine r_aload_n X 0 dX12_next_33 rfl rfl ?_
      refine r_getI X fl_12_320 k_M_0_82 dX12_next_34 ?_
      obtain ⟨q4, hq4, hf⟩ := bd_some hf
      refine r_callVI X (As := [mI (q2.2 0 82)]) (st := []) (as := fun ad => [.ref (ad 0), mI (q2.2 0 82)]) (c_M_look hq4) rfl yw_X12_look yv_X12_look ml_RX12_323 o_M_0 rfl rfl ⟨rfl, rfl⟩ ⟨Nat.le_of_ble_eq_true rfl, Nat.le_of_ble_eq_true rfl⟩ rfl rfl (Nat.le_of_ble_eq_true rfl) dX12_next_37 ?_
      refine r_bipush X dX12_next_40 (by decide) ?_
      refine r_icmp_ne (tgt := 58) X dX12_next_42 (by decide) (fun hc5 => ?_) (fun hc5 => ?_)
      · have hf := ite_yes hc5 hf
        exact b_M_next_45_ok X hkc hk58 hf
      · have hf := ite_no hc5 hf
        exact hk58 _ hf
set_option maxRecDepth 100000 in
set_option maxHeartbeats 4000000 in
theorem l_M_next_8_ok {p : Program} {l : Launch} {e : Env} {s : State} {m : MethodId} {args : Array Value} {below : List Frame} {meth : Method} {c : Code} {D : va_G} {cy : Nat → ClassId} {ad : Nat → Nat} (X : CX p s m args meth c cX12_next RX12 2 none D shM cy ad (aw shM ad)) {F : Nat} {k58 : St → Option (St)} {q : St} (hk58 : ∀ sg , k58 sg  = some q → GG p l e rm_M_next s m args below meth c (QV D shM cy ad below args s q) D shM cy ad (aw shM ad) 2 58 [(0, .ref (ad 0))] [] sg) : ∀ (n : Nat) (sg : St) , l_M_next_8  F k58 n sg  = some q → GG p l e rm_M_next s m args below meth c (QV D shM cy ad below args s q) D shM cy ad (aw shM ad) 2 8 [(0, .ref (ad 0))] [] sg := by
  intro n
  induction n with
  | zero => intro sg  h; cases h
  | succ n ih => exact fun sg  h => b_M_next_8_ok X ih hk58 h
set_option maxRecDepth 100000 in
set_option maxHeartbeats 4000000 in
theorem b_M_next_58_ok {p : Program} {l : Launch} {e : Env} {s : State} {m : MethodId} {args : Array Value} {below : List Frame} {meth : Method} {c : Code} {D : va_G} {cy : Nat → ClassId} {ad : Nat → Nat} (X : CX p s m args meth c cX12_next RX12 2 none D shM cy ad (aw shM ad)) {F : Nat} {q : St} {sg : St} (hf : b_M_next_58  F  sg  = some q) : GG p l e rm_M_next s m args below meth c (QV D shM cy ad below args s q) D shM cy ad (aw shM ad) 2 58 [(0, .ref (ad 0))] [] sg := by
  refine r_aload_n X 0 dX12_next_58 rfl rfl ?_
  refine r_aload_n X 0 dX12_next_59 rfl rfl ?_
  refine r_getI X fl_12_320 k_M_0_82 dX12_next_60 ?_
  refine r_putI X fp_12_317 k_M_0_83 rfl rfl dX12_next_63 ?_
  refine r_aload_n X 0 dX12_next_66 rfl rfl ?_
  refine r_getI X fl_12_320 k_M_0_82 dX12_next_67 ?_
  refine r_aload_n X 0 dX12_next_70 rfl rfl ?_
  refine r_getI X fl_12_314 k_M_0_46 dX12_next_71 ?_
  refine r_icmp_lt (tgt := 83) X dX12_next_74 (by decide) (fun hc2 => ?_) (fun hc2 => ?_)
  · have hf := ite_yes hc2 hf
    refine r_aload_n X 0 dX12_next_83 rfl rfl ?_
    refine r_aload_n X 0 dX12_next_84 rfl rfl ?_
    refine r_getI X fl_12_320 k_M_0_82 dX12_next_85 ?_
    obtain ⟨q4, hq4, hf⟩ := bd_some hf
    refine r_callVI X (As := [mI ((put sg 0 83 (sg 0 82)) 0 82)]) (st := []) (as := fun ad => [.ref (ad 0), mI ((put sg 0 83 (sg 0 82)) 0 82)]) (c_M_look hq4) rfl yw_X12_look yv_X12_look ml_RX12_323 o_M_0 rfl rfl ⟨rfl, rfl⟩ ⟨Nat.le_of_ble_eq_true rfl, Nat.le_of_ble_eq_true rfl⟩ rfl rfl (Nat.le_of_ble_eq_true rfl) dX12_next_88 ?_
    refine r_istore_n (lv2 := [(1, mI q4.1), (0, .ref (ad 0))]) X dX12_next_91 rfl (by decide) rfl ?_
    refine r_iload_n X 0 dX12_next_92 rfl rfl ?_
    obtain ⟨q5, hq5, hf⟩ := bd_some hf
    refine r_callSI X (As := [mI q4.1]) (st := []) (as := fun ad => [mI q4.1]) (c_M_isLetter hq5) rfl yw_X12_isLetter ys_X12_isLetter ml_RX12_329 ⟨rfl, rfl⟩ ⟨Nat.le_of_ble_eq_true rfl, Nat.le_of_ble_eq_true rfl⟩ rfl rfl (Nat.le_of_ble_eq_true rfl) dX12_next_93 ?_
    refine r_if_eq (tgt := 182) X dX12_next_96 (by decide) (fun hc6 => ?_) (fun hc6 => ?_)
    · have hf := ite_yes hc6 hf
      refine r_iload_n X 0 dX12_next_182 rfl rfl ?_
      obtain ⟨q10, hq10, hf⟩ := bd_some hf
      refine r_callSI X (As := [mI q4.1]) (st := []) (as := fun ad => [mI q4.1]) (c_M_isDigit hq10) rfl yw_X12_isDigit ys_X12_isDigit ml_RX12_339 ⟨rfl, rfl⟩ ⟨Nat.le_of_ble_eq_true rfl, Nat.le_of_ble_eq_true rfl⟩ rfl rfl (Nat.le_of_ble_eq_true rfl) dX12_next_183 ?_
      refine r_if_eq (tgt := 282) X dX12_next_186 (by decide) (fun hc11 => ?_) (fun hc11 => ?_)
      · have hf := ite_yes hc11 hf
        refine r_aload_n X 1 dX12_next_282 rfl rfl ?_
        refine r_aload_n X 1 dX12_next_283 rfl rfl ?_
        refine r_getI X fl_12_320 k_M_0_82 dX12_next_284 ?_
        refine r_iconst X dX12_next_287 ?_
        refine r_iadd X dX12_next_288 ?_
        refine r_putI X fp_12_317 k_M_0_83 rfl rfl dX12_next_289 ?_
        refine r_aload_n X 1 dX12_next_292 rfl rfl ?_
        refine r_iload_n X 0 dX12_next_293 rfl rfl ?_
        refine r_bipush X dX12_next_294 (by decide) ?_
        refine r_icmp_ne (tgt := 303) X dX12_next_296 (by decide) (fun hc18 => ?_) (fun hc18 => ?_)
        · have hf := ite_yes hc18 hf
          refine r_iconst X dX12_next_299 ?_
          refine r_goto (tgt := 304) X dX12_next_300 (by decide) ?_
          refine r_putI X fp_12_326 k_M_0_81 rfl rfl dX12_next_304 ?_
          exact r_vreturn X hf dX12_next_307
        · have hf := ite_no hc18 hf
          refine r_iconst X dX12_next_303 ?_
          refine r_putI X fp_12_326 k_M_0_81 rfl rfl dX12_next_304 ?_
          exact r_vreturn X hf dX12_next_307
      · have hf := ite_no hc11 hf
        refine r_aload_n X 1 dX12_next_189 rfl rfl ?_
        refine r_iconst X dX12_next_190 ?_
        refine r_putI X fp_12_342 k_M_0_84 rfl rfl dX12_next_191 ?_
        refine r_perm (lv2 := [(0, .ref (ad 0))]) [1] rfl ?_
        refine l_M_next_194_ok X ?_ F _  hf
        · intro s13  hf
          refine r_aload_n X 0 dX12_next_257 rfl rfl ?_
          refine r_aload_n X 0 dX12_next_258 rfl rfl ?_
          refine r_getI X fl_12_317 k_M_0_83 dX12_next_259 ?_
          refine r_aload_n X 0 dX12_next_262 rfl rfl ?_
          refine r_getI X fl_12_320 k_M_0_82 dX12_next_263 ?_
          refine r_isub X dX12_next_266 ?_
          refine r_iconst X dX12_next_267 ?_
          refine r_icmp_le (tgt := 275) X dX12_next_268 (by decide) (fun hc14 => ?_) (fun hc14 => ?_)
          · have hf := ite_yes hc14 hf
            refine r_iconst X dX12_next_275 ?_
            refine r_putI X fp_12_326 k_M_0_81 rfl rfl dX12_next_276 ?_
            refine r_goto (tgt := 307) X dX12_next_279 (by decide) ?_
            exact r_vreturn X hf dX12_next_307
          · have hf := ite_no hc14 hf
            refine r_iconst X dX12_next_271 ?_
            refine r_goto (tgt := 276) X dX12_next_272 (by decide) ?_
            refine r_putI X fp_12_326 k_M_0_81 rfl rfl dX12_next_276 ?_
            refine r_goto (tgt := 307) X dX12_next_279 (by decide) ?_
            exact r_vreturn X hf dX12_next_307
    · have hf := ite_no hc6 hf
      refine r_aload_n X 1 dX12_next_99 rfl rfl ?_
      refine r_iconst X dX12_next_100 ?_
      refine r_putI X fp_12_326 k_M_0_81 rfl rfl dX12_next_101 ?_
      refine r_aload_n X 1 dX12_next_104 rfl rfl ?_
      refine r_lconst (v := 0) X dX12_next_105 (by decide) ?_
      refine r_putL X fp_12_332 k_M_0_85 rfl rfl dX12_next_106 ?_
      refine r_perm (lv2 := [(0, .ref (ad 0))]) [1] rfl ?_
      refine l_M_next_109_ok X ?_ F _  hf
      · intro s9  hf
        exact r_vreturn X hf dX12_next_307
  · have hf := ite_no hc2 hf
    refine r_aload_n X 0 dX12_next_77 rfl rfl ?_
    refine r_iconst X dX12_next_78 ?_
    refine r_putI X fp_12_326 k_M_0_81 rfl rfl dX12_next_79 ?_
    exact r_vreturn X hf dX12_next_82
set_option maxRecDepth 100000 in
set_option maxHeartbeats 4000000 in
theorem c_M_next {l : Launch} {F : Nat} {sg : St} {q : St} (hf : f_M_next F  sg  = some q) : MV l shM yX12_next cX12_next 2 none rm_M_next (fun ad => [.ref (ad 0)]) sg q := by
  refine mk_v (by decide) (fun _ => Nat.le_of_ble_eq_true rfl) (fun p e s m args below meth c D cy ad X => ?_)
  have X : CX p s m args meth c cX12_next RX12 2 none D shM cy ad (aw shM ad) := X
  refine r_perm (lv2 := [(0, .ref (ad 0))]) [0] rfl ?_
  refine r_aload_n X 0 dX12_next_0 rfl rfl ?_
  refine r_aload_n X 0 dX12_next_1 rfl rfl ?_
  refine r_getI X fl_12_317 k_M_0_83 dX12_next_2 ?_
  refine r_putI X fp_12_320 k_M_0_82 rfl rfl dX12_next_5 ?_
  refine l_M_next_8_ok X ?_ F _  hf
  · intro s2  hf
    exact b_M_next_58_ok X  hf
set_option maxRecDepth 100000 in
set_option maxHeartbeats 4000000 in
theorem b_M_spelled_86_ok {p : Program} {l : Launch} {e : Env} {s : State} {m : MethodId} {args : Array Value} {below : List Frame} {meth : Method} {c : Code} {D : va_G} {cy : Nat → ClassId} {ad : Nat → Nat} (X : CX p s m args meth c cX12_spelled RX12 8 (some .long) D shM cy ad (aw shM ad)) {F : Nat} {q : Int × St} {sg : St} {x5 z0 : Int} (hf : b_M_spelled_86  F  sg x5 z0 = some q) : GG p l e rm_M_spelled s m args below meth c (QL D shM cy ad below args s q) D shM cy ad (aw shM ad) 8 86 [(5, mI x5)] [mL z0] sg := by
  refine r_lstore (lv2 := [(6, mL z0), (5, mI x5)]) X dX12_spelled_86 (by decide) rfl ?_
  refine r_iload X 1 dX12_spelled_88 rfl ?_
  refine r_if_le (tgt := 110) X dX12_spelled_90 (by decide) (fun hc1 => ?_) (fun hc1 => ?_)
  · have hf := ite_yes hc1 hf
    refine r_lload X 0 dX12_spelled_110 rfl ?_
    exact r_lreturn X hf dX12_spelled_112
  · have hf := ite_no hc1 hf
    refine r_lload X 0 dX12_spelled_93 rfl ?_
    refine r_ldc2 X cst_RX12_335 dX12_spelled_95 ?_
    refine r_lmul X dX12_spelled_98 ?_
    refine r_iload X 1 dX12_spelled_99 rfl ?_
    refine r_i2l X dX12_spelled_101 ?_
    refine r_ladd X dX12_spelled_102 ?_
    refine r_ldc2 X cst_RX12_337 dX12_spelled_103 ?_
    refine r_lsub X dX12_spelled_106 ?_
    refine r_goto (tgt := 112) X dX12_spelled_107 (by decide) ?_
    exact r_lreturn X hf dX12_spelled_112
set_option maxRecDepth 100000 in
set_option maxHeartbeats 4000000 in
theorem b_M_spelled_60_ok {p : Program} {l : Launch} {e : Env} {s : State} {m : MethodId} {args : Array Value} {below : List Frame} {meth : Method} {c : Code} {D : va_G} {cy : Nat → ClassId} {ad : Nat → Nat} (X : CX p s m args meth c cX12_spelled RX12 8 (some .long) D shM cy ad (aw shM ad)) {F : Nat} {q : Int × St} {sg : St} {x4 x5 z0 : Int} (hf : b_M_spelled_60  F  sg x4 x5 z0 = some q) : GG p l e rm_M_spelled s m args below meth c (QL D shM cy ad below args s q) D shM cy ad (aw shM ad) 8 60 [(4, mI x4), (5, mI x5)] [mL z0] sg := by
  refine r_lstore (lv2 := [(6, mL z0), (4, mI x4), (5, mI x5)]) X dX12_spelled_60 (by decide) rfl ?_
  refine r_iload X 1 dX12_spelled_62 rfl ?_
  refine r_if_le (tgt := 84) X dX12_spelled_64 (by decide) (fun hc1 => ?_) (fun hc1 => ?_)
  · have hf := ite_yes hc1 hf
    refine r_lload X 0 dX12_spelled_84 rfl ?_
    refine r_perm (lv2 := [(5, mI x5)]) [2] rfl ?_
    exact b_M_spelled_86_ok X  hf
  · have hf := ite_no hc1 hf
    refine r_lload X 0 dX12_spelled_67 rfl ?_
    refine r_ldc2 X cst_RX12_335 dX12_spelled_69 ?_
    refine r_lmul X dX12_spelled_72 ?_
    refine r_iload X 1 dX12_spelled_73 rfl ?_
    refine r_i2l X dX12_spelled_75 ?_
    refine r_ladd X dX12_spelled_76 ?_
    refine r_ldc2 X cst_RX12_337 dX12_spelled_77 ?_
    refine r_lsub X dX12_spelled_80 ?_
    refine r_goto (tgt := 86) X dX12_spelled_81 (by decide) ?_
    refine r_perm (lv2 := [(5, mI x5)]) [2] rfl ?_
    exact b_M_spelled_86_ok X  hf
set_option maxRecDepth 100000 in
set_option maxHeartbeats 4000000 in
theorem c_M_spelled {l : Launch} {sg : St} {x0 x1 x2 x3 x4 x5 : Int} {q : Int × St} (hf : f_M_spelled  sg x0 x1 x2 x3 x4 x5 = some q) : ML l shM yX12_spelled cX12_spelled 8 (some .long) rm_M_spelled (fun ad => [mI x0, mI x1, mI x2, mI x3, mI x4, mI x5]) sg q.2 q.1 := by
  refine mk_l (by decide) (fun _ => Nat.le_of_ble_eq_true rfl) (fun p e s m args below meth c D cy ad X => ?_)
  have X : CX p s m args meth c cX12_spelled RX12 8 (some .long) D shM cy ad (aw shM ad) := X
  refine r_perm (lv2 := [(0, mI x0), (1, mI x1), (2, mI x2), (3, mI x3), (4, mI x4), (5, mI x5)]) [0, 1, 2, 3, 4, 5] rfl ?_
  refine r_iload_n X 0 dX12_spelled_0 rfl rfl ?_
  refine r_i2l X dX12_spelled_1 ?_
  refine r_ldc2 X cst_RX12_337 dX12_spelled_2 ?_
  refine r_lsub X dX12_spelled_5 ?_
  refine r_lstore (lv2 := [(6, mL ((w32 x0) - 96)), (0, mI x0), (1, mI x1), (2, mI x2), (3, mI x3), (4, mI x4), (5, mI x5)]) X dX12_spelled_6 (by decide) rfl ?_
  refine r_lload X 0 dX12_spelled_8 rfl ?_
  refine r_ldc2 X cst_RX12_335 dX12_spelled_10 ?_
  refine r_lmul X dX12_spelled_13 ?_
  refine r_iload_n X 2 dX12_spelled_14 rfl rfl ?_
  refine r_i2l X dX12_spelled_15 ?_
  refine r_ladd X dX12_spelled_16 ?_
  refine r_ldc2 X cst_RX12_337 dX12_spelled_17 ?_
  refine r_lsub X dX12_spelled_20 ?_
  refine r_lstore (lv2 := [(6, mL (((((w32 x0) - 96) * 32) + (w32 x1)) - 96)), (0, mI x0), (1, mI x1), (2, mI x2), (3, mI x3), (4, mI x4), (5, mI x5)]) X dX12_spelled_21 (by decide) rfl ?_
  refine r_lload X 0 dX12_spelled_23 rfl ?_
  refine r_ldc2 X cst_RX12_335 dX12_spelled_25 ?_
  refine r_lmul X dX12_spelled_28 ?_
  refine r_iload_n X 3 dX12_spelled_29 rfl rfl ?_
  refine r_i2l X dX12_spelled_30 ?_
  refine r_ladd X dX12_spelled_31 ?_
  refine r_ldc2 X cst_RX12_337 dX12_spelled_32 ?_
  refine r_lsub X dX12_spelled_35 ?_
  refine r_lstore (lv2 := [(6, mL ((((((((w32 x0) - 96) * 32) + (w32 x1)) - 96) * 32) + (w32 x2)) - 96)), (0, mI x0), (1, mI x1), (2, mI x2), (3, mI x3), (4, mI x4), (5, mI x5)]) X dX12_spelled_36 (by decide) rfl ?_
  refine r_iload_n X 4 dX12_spelled_38 rfl rfl ?_
  refine r_if_le (tgt := 58) X dX12_spelled_39 (by decide) (fun hc1 => ?_) (fun hc1 => ?_)
  · have hf := ite_yes hc1 hf
    refine r_lload X 0 dX12_spelled_58 rfl ?_
    refine r_perm (lv2 := [(4, mI x4), (5, mI x5)]) [5, 6] rfl ?_
    exact b_M_spelled_60_ok X  hf
  · have hf := ite_no hc1 hf
    refine r_lload X 0 dX12_spelled_42 rfl ?_
    refine r_ldc2 X cst_RX12_335 dX12_spelled_44 ?_
    refine r_lmul X dX12_spelled_47 ?_
    refine r_iload_n X 4 dX12_spelled_48 rfl rfl ?_
    refine r_i2l X dX12_spelled_49 ?_
    refine r_ladd X dX12_spelled_50 ?_
    refine r_ldc2 X cst_RX12_337 dX12_spelled_51 ?_
    refine r_lsub X dX12_spelled_54 ?_
    refine r_goto (tgt := 60) X dX12_spelled_55 (by decide) ?_
    refine r_perm (lv2 := [(4, mI x4), (5, mI x5)]) [5, 6] rfl ?_
    exact b_M_spelled_60_ok X  hf
set_option maxRecDepth 100000 in
set_option maxHeartbeats 4000000 in
theorem c_M_isWord {l : Launch} {sg : St} {x1 : Int} {q : Int × St} (hf : f_M_isWord  sg x1 = some q) : MI l shM yX12_isWord cX12_isWord 3 (some .boolean) rm_M_isWord (fun ad => [.ref (ad 0), mL x1]) sg q.2 q.1 := by
  refine mk_i (by decide) (fun _ => Nat.le_of_ble_eq_true rfl) (fun p e s m args below meth c D cy ad X => ?_)
  have X : CX p s m args meth c cX12_isWord RX12 3 (some .boolean) D shM cy ad (aw shM ad) := X
  refine r_perm (lv2 := [(0, .ref (ad 0)), (1, mL x1)]) [0, 1] rfl ?_
  refine r_aload_n X 0 dX12_isWord_0 rfl rfl ?_
  refine r_getI X fl_12_326 k_M_0_81 dX12_isWord_1 ?_
  refine r_iconst X dX12_isWord_4 ?_
  refine r_icmp_ne (tgt := 21) X dX12_isWord_5 (by decide) (fun hc1 => ?_) (fun hc1 => ?_)
  · have hf := ite_yes hc1 hf
    refine r_aload_n X 0 dX12_isWord_8 rfl rfl ?_
    refine r_getL X fl_12_332 k_M_0_85 dX12_isWord_9 ?_
    refine r_lload_n X 1 dX12_isWord_12 rfl rfl ?_
    refine r_lc_ne (tgt := 21) X dX12_isWord_13 dX12_isWord_14 (by decide) (fun hc2 => ?_) (fun hc2 => ?_)
    · have hf := ite_yes hc2 hf
      refine r_iconst X dX12_isWord_17 ?_
      refine r_goto (tgt := 22) X dX12_isWord_18 (by decide) ?_
      exact r_zreturn X hf rfl dX12_isWord_22
    · have hf := ite_no hc2 hf
      refine r_iconst X dX12_isWord_21 ?_
      exact r_zreturn X hf rfl dX12_isWord_22
  · have hf := ite_no hc1 hf
    refine r_iconst X dX12_isWord_21 ?_
    exact r_zreturn X hf rfl dX12_isWord_22
set_option maxRecDepth 100000 in
set_option maxHeartbeats 4000000 in
theorem c_M_fail {l : Launch} {sg : St} {x1 x2 : Int} {q : St} (hf : f_M_fail  sg x1 x2 = some q) : MV l shM yX12_fail cX12_fail 3 none rm_M_fail (fun ad => [.ref (ad 0), mI x1, mI x2]) sg q := by
  refine mk_v (by decide) (fun _ => Nat.le_of_ble_eq_true rfl) (fun p e s m args below meth c D cy ad X => ?_)
  have X : CX p s m args meth c cX12_fail RX12 3 none D shM cy ad (aw shM ad) := X
  refine r_perm (lv2 := [(0, .ref (ad 0)), (1, mI x1), (2, mI x2)]) [0, 1, 2] rfl ?_
  refine r_aload_n X 0 dX12_fail_0 rfl rfl ?_
  refine r_getI X fl_12_345 k_M_0_49 dX12_fail_1 ?_
  refine r_if_le (tgt := 8) X dX12_fail_4 (by decide) (fun hc1 => ?_) (fun hc1 => ?_)
  · have hf := ite_yes hc1 hf
    refine r_aload_n X 0 dX12_fail_8 rfl rfl ?_
    refine r_iload_n X 1 dX12_fail_9 rfl rfl ?_
    refine r_putI X fp_12_345 k_M_0_49 rfl rfl dX12_fail_10 ?_
    refine r_aload_n X 0 dX12_fail_13 rfl rfl ?_
    refine r_iload_n X 2 dX12_fail_14 rfl rfl ?_
    refine r_putI X fp_12_348 k_M_0_50 rfl rfl dX12_fail_15 ?_
    exact r_vreturn X hf dX12_fail_18
  · have hf := ite_no hc1 hf
    exact r_vreturn X hf dX12_fail_7
set_option maxRecDepth 100000 in
set_option maxHeartbeats 4000000 in
theorem b_M_wrong_14_ok {p : Program} {l : Launch} {e : Env} {s : State} {m : MethodId} {args : Array Value} {below : List Frame} {meth : Method} {c : Code} {D : va_G} {cy : Nat → ClassId} {ad : Nat → Nat} (X : CX p s m args meth c cX12_wrong RX12 1 none D shM cy ad (aw shM ad)) {F : Nat} {q : St} {sg : St} {z0 : Int} (hf : b_M_wrong_14  F  sg z0 = some q) : GG p l e rm_M_wrong s m args below meth c (QV D shM cy ad below args s q) D shM cy ad (aw shM ad) 1 14 [(0, .ref (ad 0))] [mI z0, .ref (ad 0)] sg := by
  refine r_aload_n X 0 dX12_wrong_14 rfl rfl ?_
  refine r_getI X fl_12_320 k_M_0_82 dX12_wrong_15 ?_
  obtain ⟨q1, hq1, hf⟩ := bd_some hf
  refine r_callVV X (As := [mI z0, mI (sg 0 82)]) (st := []) (as := fun ad => [.ref (ad 0), mI z0, mI (sg 0 82)]) (c_M_fail hq1) rfl yw_X12_fail yv_X12_fail ml_RX12_351 o_M_0 rfl rfl ⟨rfl, rfl⟩ ⟨Nat.le_of_ble_eq_true rfl, Nat.le_of_ble_eq_true rfl⟩ rfl rfl (Nat.le_of_ble_eq_true rfl) dX12_wrong_18 ?_
  exact r_vreturn X hf dX12_wrong_21
set_option maxRecDepth 100000 in
set_option maxHeartbeats 4000000 in
theorem c_M_wrong {l : Launch} {sg : St} {q : St} (hf : f_M_wrong  sg  = some q) : MV l shM yX12_wrong cX12_wrong 1 none rm_M_wrong (fun ad => [.ref (ad 0)]) sg q := by
  refine mk_v (by decide) (fun _ => Nat.le_of_ble_eq_true rfl) (fun p e s m args below meth c D cy ad X => ?_)
  have X : CX p s m args meth c cX12_wrong RX12 1 none D shM cy ad (aw shM ad) := X
  refine r_perm (lv2 := [(0, .ref (ad 0))]) [0] rfl ?_
  refine r_aload_n X 0 dX12_wrong_0 rfl rfl ?_
  refine r_aload_n X 0 dX12_wrong_1 rfl rfl ?_
  refine r_getI X fl_12_326 k_M_0_81 dX12_wrong_2 ?_
  refine r_iconst X dX12_wrong_5 ?_
  refine r_icmp_ne (tgt := 13) X dX12_wrong_6 (by decide) (fun hc1 => ?_) (fun hc1 => ?_)
  · have hf := ite_yes hc1 hf
    refine r_iconst X dX12_wrong_9 ?_
    refine r_goto (tgt := 14) X dX12_wrong_10 (by decide) ?_
    exact b_M_wrong_14_ok X  hf
  · have hf := ite_no hc1 hf
    refine r_iconst X dX12_wrong_13 ?_
    exact b_M_wrong_14_ok X  hf
set_option maxRecDepth 100000 in
set_option maxHeartbeats 4000000 in
theorem b_M_numberOf_49_ok {p : Program} {l : Launch} {e : Env} {s : State} {m : MethodId} {args : Array Value} {below : List Frame} {meth : Method} {c : Code} {D : va_G} {cy : Nat → ClassId} {ad : Nat → Nat} (X : CX p s m args meth c cX12_numberOf RX12 4 (some .int) D shM cy ad (aw shM ad)) {F : Nat} {q : Int × St} {sg : St} {x1 x3 : Int} (hf : b_M_numberOf_49  F  sg x1 x3 = some q) : GG p l e rm_M_numberOf s m args below meth c (QI D shM cy ad below args s q) D shM cy ad (aw shM ad) 4 49 [(0, .ref (ad 0)), (1, mI x1), (3, mI x3)] [] sg := by
  refine r_aload_n X 0 dX12_numberOf_49 rfl rfl ?_
  refine r_getI X fl_12_345 k_M_0_49 dX12_numberOf_50 ?_
  refine r_if_ne (tgt := 60) X dX12_numberOf_53 (by decide) (fun hc1 => ?_) (fun hc1 => ?_)
  · have hf := ite_yes hc1 hf
    refine r_iload_n X 2 dX12_numberOf_56 rfl rfl ?_
    refine r_goto (tgt := 61) X dX12_numberOf_57 (by decide) ?_
    exact r_ireturn X hf dX12_numberOf_61
  · have hf := ite_no hc1 hf
    refine r_iload_n X 1 dX12_numberOf_60 rfl rfl ?_
    exact r_ireturn X hf dX12_numberOf_61
set_option maxRecDepth 100000 in
set_option maxHeartbeats 4000000 in
theorem b_M_numberOf_38_ok {p : Program} {l : Launch} {e : Env} {s : State} {m : MethodId} {args : Array Value} {below : List Frame} {meth : Method} {c : Code} {D : va_G} {cy : Nat → ClassId} {ad : Nat → Nat} (X : CX p s m args meth c cX12_numberOf RX12 4 (some .int) D shM cy ad (aw shM ad)) {F : Nat} {q : Int × St} {sg : St} {x1 x3 : Int} (hf : b_M_numberOf_38  F  sg x1 x3 = some q) : GG p l e rm_M_numberOf s m args below meth c (QI D shM cy ad below args s q) D shM cy ad (aw shM ad) 4 38 [(0, .ref (ad 0)), (1, mI x1), (3, mI x3)] [] sg := by
  refine r_aload_n X 0 dX12_numberOf_38 rfl rfl ?_
  refine r_getI X fl_12_345 k_M_0_49 dX12_numberOf_39 ?_
  refine r_if_ne (tgt := 49) X dX12_numberOf_42 (by decide) (fun hc1 => ?_) (fun hc1 => ?_)
  · have hf := ite_yes hc1 hf
    refine r_aload_n X 0 dX12_numberOf_45 rfl rfl ?_
    obtain ⟨q2, hq2, hf⟩ := bd_some hf
    refine r_callVV X (As := []) (st := []) (as := fun ad => [.ref (ad 0)]) (c_M_next hq2) rfl yw_X12_next yv_X12_next ml_RX12_358 o_M_0 rfl rfl ⟨rfl, rfl⟩ ⟨Nat.le_of_ble_eq_true rfl, Nat.le_of_ble_eq_true rfl⟩ rfl rfl (Nat.le_of_ble_eq_true rfl) dX12_numberOf_46 ?_
    exact b_M_numberOf_49_ok X  hf
  · have hf := ite_no hc1 hf
    exact b_M_numberOf_49_ok X  hf
set_option maxRecDepth 100000 in
set_option maxHeartbeats 4000000 in
theorem b_M_numberOf_29_ok {p : Program} {l : Launch} {e : Env} {s : State} {m : MethodId} {args : Array Value} {below : List Frame} {meth : Method} {c : Code} {D : va_G} {cy : Nat → ClassId} {ad : Nat → Nat} (X : CX p s m args meth c cX12_numberOf RX12 4 (some .int) D shM cy ad (aw shM ad)) {F : Nat} {q : Int × St} {sg : St} {x1 x3 : Int} (hf : b_M_numberOf_29  F  sg x1 x3 = some q) : GG p l e rm_M_numberOf s m args below meth c (QI D shM cy ad below args s q) D shM cy ad (aw shM ad) 4 29 [(0, .ref (ad 0)), (1, mI x1), (3, mI x3)] [] sg := by
  refine r_aload_n X 0 dX12_numberOf_29 rfl rfl ?_
  refine r_iconst X dX12_numberOf_30 ?_
  refine r_aload_n X 0 dX12_numberOf_31 rfl rfl ?_
  refine r_getI X fl_12_320 k_M_0_82 dX12_numberOf_32 ?_
  obtain ⟨q1, hq1, hf⟩ := bd_some hf
  refine r_callVV X (As := [mI 4, mI (sg 0 82)]) (st := []) (as := fun ad => [.ref (ad 0), mI 4, mI (sg 0 82)]) (c_M_fail hq1) rfl yw_X12_fail yv_X12_fail ml_RX12_351 o_M_0 rfl rfl ⟨rfl, rfl⟩ ⟨Nat.le_of_ble_eq_true rfl, Nat.le_of_ble_eq_true rfl⟩ rfl rfl (Nat.le_of_ble_eq_true rfl) dX12_numberOf_35 ?_
  exact b_M_numberOf_38_ok X  hf
set_option maxRecDepth 100000 in
set_option maxHeartbeats 4000000 in
theorem c_M_numberOf {l : Launch} {F : Nat} {sg : St} {x1 x2 : Int} {q : Int × St} (hf : f_M_numberOf F  sg x1 x2 = some q) : MI l shM yX12_numberOf cX12_numberOf 4 (some .int) rm_M_numberOf (fun ad => [.ref (ad 0), mI x1, mI x2]) sg q.2 q.1 := by
  refine mk_i (by decide) (fun _ => Nat.le_of_ble_eq_true rfl) (fun p e s m args below meth c D cy ad X => ?_)
  have X : CX p s m args meth c cX12_numberOf RX12 4 (some .int) D shM cy ad (aw shM ad) := X
  refine r_perm (lv2 := [(0, .ref (ad 0)), (1, mI x1), (2, mI x2)]) [0, 1, 2] rfl ?_
  refine r_aload_n X 0 dX12_numberOf_0 rfl rfl ?_
  refine r_getI X fl_12_326 k_M_0_81 dX12_numberOf_1 ?_
  refine r_iconst X dX12_numberOf_4 ?_
  refine r_icmp_eq (tgt := 14) X dX12_numberOf_5 (by decide) (fun hc1 => ?_) (fun hc1 => ?_)
  · have hf := ite_yes hc1 hf
    refine r_aload_n X 0 dX12_numberOf_14 rfl rfl ?_
    refine r_getI X fl_12_342 k_M_0_84 dX12_numberOf_15 ?_
    refine r_istore_n (lv2 := [(3, mI (sg 0 84)), (0, .ref (ad 0)), (1, mI x1), (2, mI x2)]) X dX12_numberOf_18 rfl (by decide) rfl ?_
    refine r_iload_n X 0 dX12_numberOf_19 rfl rfl ?_
    refine r_iload_n X 2 dX12_numberOf_20 rfl rfl ?_
    refine r_icmp_lt (tgt := 29) X dX12_numberOf_21 (by decide) (fun hc3 => ?_) (fun hc3 => ?_)
    · have hf := ite_yes hc3 hf
      refine r_perm (lv2 := [(0, .ref (ad 0)), (1, mI x1), (3, mI (sg 0 84))]) [1, 2, 0] rfl ?_
      exact b_M_numberOf_29_ok X  hf
    · have hf := ite_no hc3 hf
      refine r_iload_n X 0 dX12_numberOf_24 rfl rfl ?_
      refine r_iload_n X 3 dX12_numberOf_25 rfl rfl ?_
      refine r_icmp_le (tgt := 38) X dX12_numberOf_26 (by decide) (fun hc4 => ?_) (fun hc4 => ?_)
      · have hf := ite_yes hc4 hf
        refine r_perm (lv2 := [(0, .ref (ad 0)), (1, mI x1), (3, mI (sg 0 84))]) [1, 2, 0] rfl ?_
        exact b_M_numberOf_38_ok X  hf
      · have hf := ite_no hc4 hf
        refine r_perm (lv2 := [(0, .ref (ad 0)), (1, mI x1), (3, mI (sg 0 84))]) [1, 2, 0] rfl ?_
        exact b_M_numberOf_29_ok X  hf
  · have hf := ite_no hc1 hf
    refine r_aload_n X 0 dX12_numberOf_8 rfl rfl ?_
    obtain ⟨q2, hq2, hf⟩ := bd_some hf
    refine r_callVV X (As := []) (st := []) (as := fun ad => [.ref (ad 0)]) (c_M_wrong hq2) rfl yw_X12_wrong yv_X12_wrong ml_RX12_355 o_M_0 rfl rfl ⟨rfl, rfl⟩ ⟨Nat.le_of_ble_eq_true rfl, Nat.le_of_ble_eq_true rfl⟩ rfl rfl (Nat.le_of_ble_eq_true rfl) dX12_numberOf_9 ?_
    refine r_iload_n X 1 dX12_numberOf_12 rfl rfl ?_
    exact r_ireturn X hf dX12_numberOf_13
set_option maxRecDepth 100000 in
set_option maxHeartbeats 4000000 in
theorem c_M_wishOf {l : Launch} {sg : St} {q : Int × St} (hf : f_M_wishOf  sg  = some q) : MI l shM yX12_wishOf cX12_wishOf 1 (some .int) rm_M_wishOf (fun ad => [.ref (ad 0)]) sg q.2 q.1 := by
  refine mk_i (by decide) (fun _ => Nat.le_of_ble_eq_true rfl) (fun p e s m args below meth c D cy ad X => ?_)
  have X : CX p s m args meth c cX12_wishOf RX12 1 (some .int) D shM cy ad (aw shM ad) := X
  refine r_perm (lv2 := [(0, .ref (ad 0))]) [0] rfl ?_
  refine r_aload_n X 0 dX12_wishOf_0 rfl rfl ?_
  refine r_bipush X dX12_wishOf_1 (by decide) ?_
  refine r_bipush X dX12_wishOf_3 (by decide) ?_
  refine r_bipush X dX12_wishOf_5 (by decide) ?_
  refine r_bipush X dX12_wishOf_7 (by decide) ?_
  refine r_bipush X dX12_wishOf_9 (by decide) ?_
  refine r_iconst X dX12_wishOf_11 ?_
  obtain ⟨q1, hq1, hf⟩ := bd_some hf
  refine r_callSL X (As := [mI 102, mI 105, mI 101, mI 108, mI 100, mI 0]) (st := [.ref (ad 0)]) (as := fun ad => [mI 102, mI 105, mI 101, mI 108, mI 100, mI 0]) (c_M_spelled hq1) rfl yw_X12_spelled ys_X12_spelled ml_RX12_361 ⟨rfl, rfl⟩ ⟨Nat.le_of_ble_eq_true rfl, Nat.le_of_ble_eq_true rfl⟩ rfl rfl (Nat.le_of_ble_eq_true rfl) dX12_wishOf_12 ?_
  obtain ⟨q2, hq2, hf⟩ := bd_some hf
  refine r_callVI X (As := [mL q1.1]) (st := []) (as := fun ad => [.ref (ad 0), mL q1.1]) (c_M_isWord hq2) rfl yw_X12_isWord yv_X12_isWord ml_RX12_365 o_M_0 rfl rfl ⟨rfl, rfl⟩ ⟨Nat.le_of_ble_eq_true rfl, Nat.le_of_ble_eq_true rfl⟩ rfl rfl (Nat.le_of_ble_eq_true rfl) dX12_wishOf_15 ?_
  refine r_if_eq (tgt := 23) X dX12_wishOf_18 (by decide) (fun hc3 => ?_) (fun hc3 => ?_)
  · have hf := ite_yes hc3 hf
    refine r_aload_n X 0 dX12_wishOf_23 rfl rfl ?_
    refine r_bipush X dX12_wishOf_24 (by decide) ?_
    refine r_bipush X dX12_wishOf_26 (by decide) ?_
    refine r_bipush X dX12_wishOf_28 (by decide) ?_
    refine r_iconst X dX12_wishOf_30 ?_
    refine r_iconst X dX12_wishOf_31 ?_
    refine r_iconst X dX12_wishOf_32 ?_
    obtain ⟨q4, hq4, hf⟩ := bd_some hf
    refine r_callSL X (As := [mI 97, mI 103, mI 101, mI 0, mI 0, mI 0]) (st := [.ref (ad 0)]) (as := fun ad => [mI 97, mI 103, mI 101, mI 0, mI 0, mI 0]) (c_M_spelled hq4) rfl yw_X12_spelled ys_X12_spelled ml_RX12_361 ⟨rfl, rfl⟩ ⟨Nat.le_of_ble_eq_true rfl, Nat.le_of_ble_eq_true rfl⟩ rfl rfl (Nat.le_of_ble_eq_true rfl) dX12_wishOf_33 ?_
    obtain ⟨q5, hq5, hf⟩ := bd_some hf
    refine r_callVI X (As := [mL q4.1]) (st := []) (as := fun ad => [.ref (ad 0), mL q4.1]) (c_M_isWord hq5) rfl yw_X12_isWord yv_X12_isWord ml_RX12_365 o_M_0 rfl rfl ⟨rfl, rfl⟩ ⟨Nat.le_of_ble_eq_true rfl, Nat.le_of_ble_eq_true rfl⟩ rfl rfl (Nat.le_of_ble_eq_true rfl) dX12_wishOf_36 ?_
    refine r_if_eq (tgt := 44) X dX12_wishOf_39 (by decide) (fun hc6 => ?_) (fun hc6 => ?_)
    · have hf := ite_yes hc6 hf
      refine r_aload_n X 0 dX12_wishOf_44 rfl rfl ?_
      refine r_bipush X dX12_wishOf_45 (by decide) ?_
      refine r_bipush X dX12_wishOf_47 (by decide) ?_
      refine r_bipush X dX12_wishOf_49 (by decide) ?_
      refine r_bipush X dX12_wishOf_51 (by decide) ?_
      refine r_bipush X dX12_wishOf_53 (by decide) ?_
      refine r_bipush X dX12_wishOf_55 (by decide) ?_
      obtain ⟨q7, hq7, hf⟩ := bd_some hf
      refine r_callSL X (As := [mI 115, mI 99, mI 104, mI 111, mI 111, mI 108]) (st := [.ref (ad 0)]) (as := fun ad => [mI 115, mI 99, mI 104, mI 111, mI 111, mI 108]) (c_M_spelled hq7) rfl yw_X12_spelled ys_X12_spelled ml_RX12_361 ⟨rfl, rfl⟩ ⟨Nat.le_of_ble_eq_true rfl, Nat.le_of_ble_eq_true rfl⟩ rfl rfl (Nat.le_of_ble_eq_true rfl) dX12_wishOf_57 ?_
      obtain ⟨q8, hq8, hf⟩ := bd_some hf
      refine r_callVI X (As := [mL q7.1]) (st := []) (as := fun ad => [.ref (ad 0), mL q7.1]) (c_M_isWord hq8) rfl yw_X12_isWord yv_X12_isWord ml_RX12_365 o_M_0 rfl rfl ⟨rfl, rfl⟩ ⟨Nat.le_of_ble_eq_true rfl, Nat.le_of_ble_eq_true rfl⟩ rfl rfl (Nat.le_of_ble_eq_true rfl) dX12_wishOf_60 ?_
      refine r_if_eq (tgt := 68) X dX12_wishOf_63 (by decide) (fun hc9 => ?_) (fun hc9 => ?_)
      · have hf := ite_yes hc9 hf
        refine r_aload_n X 0 dX12_wishOf_68 rfl rfl ?_
        refine r_bipush X dX12_wishOf_69 (by decide) ?_
        refine r_bipush X dX12_wishOf_71 (by decide) ?_
        refine r_bipush X dX12_wishOf_73 (by decide) ?_
        refine r_bipush X dX12_wishOf_75 (by decide) ?_
        refine r_iconst X dX12_wishOf_77 ?_
        refine r_iconst X dX12_wishOf_78 ?_
        obtain ⟨q10, hq10, hf⟩ := bd_some hf
        refine r_callSL X (As := [mI 115, mI 101, mI 101, mI 110, mI 0, mI 0]) (st := [.ref (ad 0)]) (as := fun ad => [mI 115, mI 101, mI 101, mI 110, mI 0, mI 0]) (c_M_spelled hq10) rfl yw_X12_spelled ys_X12_spelled ml_RX12_361 ⟨rfl, rfl⟩ ⟨Nat.le_of_ble_eq_true rfl, Nat.le_of_ble_eq_true rfl⟩ rfl rfl (Nat.le_of_ble_eq_true rfl) dX12_wishOf_79 ?_
        obtain ⟨q11, hq11, hf⟩ := bd_some hf
        refine r_callVI X (As := [mL q10.1]) (st := []) (as := fun ad => [.ref (ad 0), mL q10.1]) (c_M_isWord hq11) rfl yw_X12_isWord yv_X12_isWord ml_RX12_365 o_M_0 rfl rfl ⟨rfl, rfl⟩ ⟨Nat.le_of_ble_eq_true rfl, Nat.le_of_ble_eq_true rfl⟩ rfl rfl (Nat.le_of_ble_eq_true rfl) dX12_wishOf_82 ?_
        refine r_if_eq (tgt := 92) X dX12_wishOf_85 (by decide) (fun hc12 => ?_) (fun hc12 => ?_)
        · have hf := ite_yes hc12 hf
          refine r_iconst X dX12_wishOf_92 ?_
          exact r_ireturn X hf dX12_wishOf_93
        · have hf := ite_no hc12 hf
          refine r_iconst X dX12_wishOf_88 ?_
          refine r_goto (tgt := 93) X dX12_wishOf_89 (by decide) ?_
          exact r_ireturn X hf dX12_wishOf_93
      · have hf := ite_no hc9 hf
        refine r_iconst X dX12_wishOf_66 ?_
        exact r_ireturn X hf dX12_wishOf_67
    · have hf := ite_no hc6 hf
      refine r_iconst X dX12_wishOf_42 ?_
      exact r_ireturn X hf dX12_wishOf_43
  · have hf := ite_no hc3 hf
    refine r_iconst X dX12_wishOf_21 ?_
    exact r_ireturn X hf dX12_wishOf_22
set_option maxRecDepth 100000 in
set_option maxHeartbeats 4000000 in
theorem b_M_readPrize_218_ok {p : Program} {l : Launch} {e : Env} {s : State} {m : MethodId} {args : Array Value} {below : List Frame} {meth : Method} {c : Code} {D : va_G} {cy : Nat → ClassId} {ad : Nat → Nat} (X : CX p s m args meth c cX12_readPrize RX12 5 none D shM cy ad (aw shM ad)) {F : Nat} {kc : St → Int → Int → Int → Option (St)} {k237 : St → Int → Option (St)} {q : St} (hkc : ∀ sg x1 x2 x3, kc sg x1 x2 x3 = some q → GG p l e rm_M_readPrize s m args below meth c (QV D shM cy ad below args s q) D shM cy ad (aw shM ad) 5 70 [(0, .ref (ad 0)), (1, mI x1), (2, mI x2), (3, mI x3)] [] sg) (hk237 : ∀ sg x1, k237 sg x1 = some q → GG p l e rm_M_readPrize s m args below meth c (QV D shM cy ad below args s q) D shM cy ad (aw shM ad) 5 237 [(0, .ref (ad 0)), (1, mI x1)] [] sg) {sg : St} {x1 x2 : Int} (hf : b_M_readPrize_218  F kc k237 sg x1 x2 = some q) : GG p l e rm_M_readPrize s m args below meth c (QV D shM cy ad below args s q) D shM cy ad (aw shM ad) 5 218 [(0, .ref (ad 0)), (1, mI x1), (2, mI x2)] [] sg := by
  refine r_aload_n X 0 dX12_readPrize_218 rfl rfl ?_
  refine r_getI X fl_12_345 k_M_0_49 dX12_readPrize_219 ?_
  refine r_if_ne (tgt := 232) X dX12_readPrize_222 (by decide) (fun hc1 => ?_) (fun hc1 => ?_)
  · have hf := ite_yes hc1 hf
    refine r_aload_n X 0 dX12_readPrize_225 rfl rfl ?_
    obtain ⟨q2, hq2, hf⟩ := bd_some hf
    refine r_callVI X (As := []) (st := []) (as := fun ad => [.ref (ad 0)]) (c_M_wishOf hq2) rfl yw_X12_wishOf yv_X12_wishOf ml_RX12_372 o_M_0 rfl rfl ⟨rfl, rfl⟩ ⟨Nat.le_of_ble_eq_true rfl, Nat.le_of_ble_eq_true rfl⟩ rfl rfl (Nat.le_of_ble_eq_true rfl) dX12_readPrize_226 ?_
    refine r_goto (tgt := 233) X dX12_readPrize_229 (by decide) ?_
    refine r_istore_n (lv2 := [(3, mI q2.1), (0, .ref (ad 0)), (1, mI x1), (2, mI x2)]) X dX12_readPrize_233 rfl (by decide) rfl ?_
    refine r_goto (tgt := 70) X dX12_readPrize_234 (by decide) ?_
    refine r_perm (lv2 := [(0, .ref (ad 0)), (1, mI x1), (2, mI x2), (3, mI q2.1)]) [1, 2, 3, 0] rfl ?_
    exact hkc _ _ _ _ hf
  · have hf := ite_no hc1 hf
    refine r_iconst X dX12_readPrize_232 ?_
    refine r_istore_n (lv2 := [(3, mI (-1)), (0, .ref (ad 0)), (1, mI x1), (2, mI x2)]) X dX12_readPrize_233 rfl (by decide) rfl ?_
    refine r_goto (tgt := 70) X dX12_readPrize_234 (by decide) ?_
    refine r_perm (lv2 := [(0, .ref (ad 0)), (1, mI x1), (2, mI x2), (3, mI (-1))]) [1, 2, 3, 0] rfl ?_
    exact hkc _ _ _ _ hf
set_option maxRecDepth 100000 in
set_option maxHeartbeats 4000000 in
theorem b_M_readPrize_158_ok {p : Program} {l : Launch} {e : Env} {s : State} {m : MethodId} {args : Array Value} {below : List Frame} {meth : Method} {c : Code} {D : va_G} {cy : Nat → ClassId} {ad : Nat → Nat} (X : CX p s m args meth c cX12_readPrize RX12 5 none D shM cy ad (aw shM ad)) {F : Nat} {kc : St → Int → Int → Int → Option (St)} {k237 : St → Int → Option (St)} {q : St} (hkc : ∀ sg x1 x2 x3, kc sg x1 x2 x3 = some q → GG p l e rm_M_readPrize s m args below meth c (QV D shM cy ad below args s q) D shM cy ad (aw shM ad) 5 70 [(0, .ref (ad 0)), (1, mI x1), (2, mI x2), (3, mI x3)] [] sg) (hk237 : ∀ sg x1, k237 sg x1 = some q → GG p l e rm_M_readPrize s m args below meth c (QV D shM cy ad below args s q) D shM cy ad (aw shM ad) 5 237 [(0, .ref (ad 0)), (1, mI x1)] [] sg) {sg : St} {x1 x2 x3 z0 z1 : Int} (hf : b_M_readPrize_158  F kc k237 sg x1 x2 x3 z0 z1 = some q) : GG p l e rm_M_readPrize s m args below meth c (QV D shM cy ad below args s q) D shM cy ad (aw shM ad) 5 158 [(0, .ref (ad 0)), (1, mI x1), (2, mI x2), (3, mI x3)] [mI z0, mI z1, .ref (ad 0)] sg := by
  obtain ⟨q1, hq1, hf⟩ := bd_some hf
  refine r_callVI X (As := [mI z1, mI z0]) (st := []) (as := fun ad => [.ref (ad 0), mI z1, mI z0]) (c_M_numberOf hq1) rfl yw_X12_numberOf yv_X12_numberOf ml_RX12_375 o_M_0 rfl rfl ⟨rfl, rfl⟩ ⟨Nat.le_of_ble_eq_true rfl, Nat.le_of_ble_eq_true rfl⟩ rfl rfl (Nat.le_of_ble_eq_true rfl) dX12_readPrize_158 ?_
  refine r_istore (lv2 := [(4, mI q1.1), (0, .ref (ad 0)), (1, mI x1), (2, mI x2), (3, mI x3)]) X dX12_readPrize_161 (by decide) rfl ?_
  refine r_iload_n X 4 dX12_readPrize_163 rfl rfl ?_
  refine r_if_ne (tgt := 178) X dX12_readPrize_164 (by decide) (fun hc2 => ?_) (fun hc2 => ?_)
  · have hf := ite_yes hc2 hf
    refine r_aload_n X 1 dX12_readPrize_167 rfl rfl ?_
    refine r_getR X fl_12_141 k_M_0_59 dX12_readPrize_168 ?_
    refine r_iload_n X 2 dX12_readPrize_171 rfl rfl ?_
    refine r_iload X 0 dX12_readPrize_172 rfl ?_
    obtain ⟨hg3, hf⟩ := gd_some hf
    refine r_iast X a_M_39 hg3 dX12_readPrize_174 ?_
    refine r_goto (tgt := 218) X dX12_readPrize_175 (by decide) ?_
    refine r_perm (lv2 := [(0, .ref (ad 0)), (1, mI x1), (2, mI x2)]) [1, 2, 3] rfl ?_
    exact b_M_readPrize_218_ok X hkc hk237 hf
  · have hf := ite_no hc2 hf
    refine r_iload_n X 4 dX12_readPrize_178 rfl rfl ?_
    refine r_iconst X dX12_readPrize_179 ?_
    refine r_icmp_ne (tgt := 194) X dX12_readPrize_180 (by decide) (fun hc5 => ?_) (fun hc5 => ?_)
    · have hf := ite_yes hc5 hf
      refine r_aload_n X 1 dX12_readPrize_183 rfl rfl ?_
      refine r_getR X fl_12_144 k_M_0_60 dX12_readPrize_184 ?_
      refine r_iload_n X 2 dX12_readPrize_187 rfl rfl ?_
      refine r_iload X 0 dX12_readPrize_188 rfl ?_
      obtain ⟨hg6, hf⟩ := gd_some hf
      refine r_iast X a_M_40 hg6 dX12_readPrize_190 ?_
      refine r_goto (tgt := 218) X dX12_readPrize_191 (by decide) ?_
      refine r_perm (lv2 := [(0, .ref (ad 0)), (1, mI x1), (2, mI x2)]) [1, 2, 3] rfl ?_
      exact b_M_readPrize_218_ok X hkc hk237 hf
    · have hf := ite_no hc5 hf
      refine r_iload_n X 4 dX12_readPrize_194 rfl rfl ?_
      refine r_iconst X dX12_readPrize_195 ?_
      refine r_icmp_ne (tgt := 210) X dX12_readPrize_196 (by decide) (fun hc8 => ?_) (fun hc8 => ?_)
      · have hf := ite_yes hc8 hf
        refine r_aload_n X 1 dX12_readPrize_199 rfl rfl ?_
        refine r_getR X fl_12_147 k_M_0_61 dX12_readPrize_200 ?_
        refine r_iload_n X 2 dX12_readPrize_203 rfl rfl ?_
        refine r_iload X 0 dX12_readPrize_204 rfl ?_
        obtain ⟨hg9, hf⟩ := gd_some hf
        refine r_iast X a_M_41 hg9 dX12_readPrize_206 ?_
        refine r_goto (tgt := 218) X dX12_readPrize_207 (by decide) ?_
        refine r_perm (lv2 := [(0, .ref (ad 0)), (1, mI x1), (2, mI x2)]) [1, 2, 3] rfl ?_
        exact b_M_readPrize_218_ok X hkc hk237 hf
      · have hf := ite_no hc8 hf
        refine r_aload_n X 1 dX12_readPrize_210 rfl rfl ?_
        refine r_getR X fl_12_150 k_M_0_62 dX12_readPrize_211 ?_
        refine r_iload_n X 2 dX12_readPrize_214 rfl rfl ?_
        refine r_iload X 0 dX12_readPrize_215 rfl ?_
        obtain ⟨hg11, hf⟩ := gd_some hf
        refine r_iast X a_M_42 hg11 dX12_readPrize_217 ?_
        refine r_perm (lv2 := [(0, .ref (ad 0)), (1, mI x1), (2, mI x2)]) [1, 2, 3] rfl ?_
        exact b_M_readPrize_218_ok X hkc hk237 hf
set_option maxRecDepth 100000 in
set_option maxHeartbeats 4000000 in
theorem b_M_readPrize_128_ok {p : Program} {l : Launch} {e : Env} {s : State} {m : MethodId} {args : Array Value} {below : List Frame} {meth : Method} {c : Code} {D : va_G} {cy : Nat → ClassId} {ad : Nat → Nat} (X : CX p s m args meth c cX12_readPrize RX12 5 none D shM cy ad (aw shM ad)) {F : Nat} {kc : St → Int → Int → Int → Option (St)} {k237 : St → Int → Option (St)} {q : St} (hkc : ∀ sg x1 x2 x3, kc sg x1 x2 x3 = some q → GG p l e rm_M_readPrize s m args below meth c (QV D shM cy ad below args s q) D shM cy ad (aw shM ad) 5 70 [(0, .ref (ad 0)), (1, mI x1), (2, mI x2), (3, mI x3)] [] sg) (hk237 : ∀ sg x1, k237 sg x1 = some q → GG p l e rm_M_readPrize s m args below meth c (QV D shM cy ad below args s q) D shM cy ad (aw shM ad) 5 237 [(0, .ref (ad 0)), (1, mI x1)] [] sg) {sg : St} {x1 x2 x3 z0 : Int} (hf : b_M_readPrize_128  F kc k237 sg x1 x2 x3 z0 = some q) : GG p l e rm_M_readPrize s m args below meth c (QV D shM cy ad below args s q) D shM cy ad (aw shM ad) 5 128 [(0, .ref (ad 0)), (1, mI x1), (2, mI x2), (3, mI x3)] [mI z0, .ref (ad 0)] sg := by
  refine r_iload_n X 3 dX12_readPrize_128 rfl rfl ?_
  refine r_if_ne (tgt := 137) X dX12_readPrize_129 (by decide) (fun hc1 => ?_) (fun hc1 => ?_)
  · have hf := ite_yes hc1 hf
    refine r_bipush X dX12_readPrize_132 (by decide) ?_
    refine r_goto (tgt := 158) X dX12_readPrize_134 (by decide) ?_
    exact b_M_readPrize_158_ok X hkc hk237 hf
  · have hf := ite_no hc1 hf
    refine r_iload_n X 3 dX12_readPrize_137 rfl rfl ?_
    refine r_iconst X dX12_readPrize_138 ?_
    refine r_icmp_ne (tgt := 146) X dX12_readPrize_139 (by decide) (fun hc2 => ?_) (fun hc2 => ?_)
    · have hf := ite_yes hc2 hf
      refine r_iconst X dX12_readPrize_142 ?_
      refine r_goto (tgt := 158) X dX12_readPrize_143 (by decide) ?_
      exact b_M_readPrize_158_ok X hkc hk237 hf
    · have hf := ite_no hc2 hf
      refine r_iload_n X 3 dX12_readPrize_146 rfl rfl ?_
      refine r_iconst X dX12_readPrize_147 ?_
      refine r_icmp_ne (tgt := 156) X dX12_readPrize_148 (by decide) (fun hc3 => ?_) (fun hc3 => ?_)
      · have hf := ite_yes hc3 hf
        refine r_bipush X dX12_readPrize_151 (by decide) ?_
        refine r_goto (tgt := 158) X dX12_readPrize_153 (by decide) ?_
        exact b_M_readPrize_158_ok X hkc hk237 hf
      · have hf := ite_no hc3 hf
        refine r_bipush X dX12_readPrize_156 (by decide) ?_
        exact b_M_readPrize_158_ok X hkc hk237 hf
set_option maxRecDepth 100000 in
set_option maxHeartbeats 4000000 in
theorem b_M_readPrize_99_ok {p : Program} {l : Launch} {e : Env} {s : State} {m : MethodId} {args : Array Value} {below : List Frame} {meth : Method} {c : Code} {D : va_G} {cy : Nat → ClassId} {ad : Nat → Nat} (X : CX p s m args meth c cX12_readPrize RX12 5 none D shM cy ad (aw shM ad)) {F : Nat} {kc : St → Int → Int → Int → Option (St)} {k237 : St → Int → Option (St)} {q : St} (hkc : ∀ sg x1 x2 x3, kc sg x1 x2 x3 = some q → GG p l e rm_M_readPrize s m args below meth c (QV D shM cy ad below args s q) D shM cy ad (aw shM ad) 5 70 [(0, .ref (ad 0)), (1, mI x1), (2, mI x2), (3, mI x3)] [] sg) (hk237 : ∀ sg x1, k237 sg x1 = some q → GG p l e rm_M_readPrize s m args below meth c (QV D shM cy ad below args s q) D shM cy ad (aw shM ad) 5 237 [(0, .ref (ad 0)), (1, mI x1)] [] sg) {sg : St} {x1 x2 x3 : Int} (hf : b_M_readPrize_99  F kc k237 sg x1 x2 x3 = some q) : GG p l e rm_M_readPrize s m args below meth c (QV D shM cy ad below args s q) D shM cy ad (aw shM ad) 5 99 [(0, .ref (ad 0)), (1, mI x1), (2, mI x2), (3, mI x3)] [] sg := by
  refine r_iload_n X 2 dX12_readPrize_99 rfl rfl ?_
  refine r_iconst X dX12_readPrize_100 ?_
  refine r_iload_n X 3 dX12_readPrize_101 rfl rfl ?_
  refine r_ishl X dX12_readPrize_102 ?_
  refine r_ior X dX12_readPrize_103 ?_
  refine r_istore_n (lv2 := [(2, mI (orI x2 (shlI 1 x3))), (0, .ref (ad 0)), (1, mI x1), (3, mI x3)]) X dX12_readPrize_104 rfl (by decide) rfl ?_
  refine r_aload_n X 1 dX12_readPrize_105 rfl rfl ?_
  refine r_getI X fl_12_345 k_M_0_49 dX12_readPrize_106 ?_
  refine r_if_le (tgt := 113) X dX12_readPrize_109 (by decide) (fun hc1 => ?_) (fun hc1 => ?_)
  · have hf := ite_yes hc1 hf
    refine r_aload_n X 1 dX12_readPrize_113 rfl rfl ?_
    obtain ⟨q2, hq2, hf⟩ := bd_some hf
    refine r_callVV X (As := []) (st := []) (as := fun ad => [.ref (ad 0)]) (c_M_next hq2) rfl yw_X12_next yv_X12_next ml_RX12_358 o_M_0 rfl rfl ⟨rfl, rfl⟩ ⟨Nat.le_of_ble_eq_true rfl, Nat.le_of_ble_eq_true rfl⟩ rfl rfl (Nat.le_of_ble_eq_true rfl) dX12_readPrize_114 ?_
    refine r_aload_n X 1 dX12_readPrize_117 rfl rfl ?_
    refine r_iload_n X 3 dX12_readPrize_118 rfl rfl ?_
    refine r_iconst X dX12_readPrize_119 ?_
    refine r_icmp_ne (tgt := 127) X dX12_readPrize_120 (by decide) (fun hc3 => ?_) (fun hc3 => ?_)
    · have hf := ite_yes hc3 hf
      refine r_iconst X dX12_readPrize_123 ?_
      refine r_goto (tgt := 128) X dX12_readPrize_124 (by decide) ?_
      refine r_perm (lv2 := [(0, .ref (ad 0)), (1, mI x1), (2, mI (orI x2 (shlI 1 x3))), (3, mI x3)]) [1, 2, 0, 3] rfl ?_
      exact b_M_readPrize_128_ok X hkc hk237 hf
    · have hf := ite_no hc3 hf
      refine r_iconst X dX12_readPrize_127 ?_
      refine r_perm (lv2 := [(0, .ref (ad 0)), (1, mI x1), (2, mI (orI x2 (shlI 1 x3))), (3, mI x3)]) [1, 2, 0, 3] rfl ?_
      exact b_M_readPrize_128_ok X hkc hk237 hf
  · have hf := ite_no hc1 hf
    exact r_vreturn X hf dX12_readPrize_112
set_option maxRecDepth 100000 in
set_option maxHeartbeats 4000000 in
theorem b_M_readPrize_70_ok {p : Program} {l : Launch} {e : Env} {s : State} {m : MethodId} {args : Array Value} {below : List Frame} {meth : Method} {c : Code} {D : va_G} {cy : Nat → ClassId} {ad : Nat → Nat} (X : CX p s m args meth c cX12_readPrize RX12 5 none D shM cy ad (aw shM ad)) {F : Nat} {kc : St → Int → Int → Int → Option (St)} {k237 : St → Int → Option (St)} {q : St} (hkc : ∀ sg x1 x2 x3, kc sg x1 x2 x3 = some q → GG p l e rm_M_readPrize s m args below meth c (QV D shM cy ad below args s q) D shM cy ad (aw shM ad) 5 70 [(0, .ref (ad 0)), (1, mI x1), (2, mI x2), (3, mI x3)] [] sg) (hk237 : ∀ sg x1, k237 sg x1 = some q → GG p l e rm_M_readPrize s m args below meth c (QV D shM cy ad below args s q) D shM cy ad (aw shM ad) 5 237 [(0, .ref (ad 0)), (1, mI x1)] [] sg) {sg : St} {x1 x2 x3 : Int} (hf : b_M_readPrize_70  F kc k237 sg x1 x2 x3 = some q) : GG p l e rm_M_readPrize s m args below meth c (QV D shM cy ad below args s q) D shM cy ad (aw shM ad) 5 70 [(0, .ref (ad 0)), (1, mI x1), (2, mI x2), (3, mI x3)] [] sg := by
  refine r_iload_n X 3 dX12_readPrize_70 rfl rfl ?_
  refine r_if_lt (tgt := 237) X dX12_readPrize_71 (by decide) (fun hc1 => ?_) (fun hc1 => ?_)
  · have hf := ite_yes hc1 hf
    refine r_perm (lv2 := [(0, .ref (ad 0)), (1, mI x1)]) [0, 1] rfl ?_
    exact hk237 _ _ hf
  · have hf := ite_no hc1 hf
    refine r_aload_n X 0 dX12_readPrize_74 rfl rfl ?_
    refine r_getI X fl_12_345 k_M_0_49 dX12_readPrize_75 ?_
    refine r_if_ne (tgt := 237) X dX12_readPrize_78 (by decide) (fun hc2 => ?_) (fun hc2 => ?_)
    · have hf := ite_yes hc2 hf
      refine r_iload_n X 2 dX12_readPrize_81 rfl rfl ?_
      refine r_iload_n X 3 dX12_readPrize_82 rfl rfl ?_
      refine r_ishr X dX12_readPrize_83 ?_
      refine r_iconst X dX12_readPrize_84 ?_
      refine r_iand X dX12_readPrize_85 ?_
      refine r_iconst X dX12_readPrize_86 ?_
      refine r_icmp_ne (tgt := 99) X dX12_readPrize_87 (by decide) (fun hc3 => ?_) (fun hc3 => ?_)
      · have hf := ite_yes hc3 hf
        refine r_aload_n X 0 dX12_readPrize_90 rfl rfl ?_
        refine r_iconst X dX12_readPrize_91 ?_
        refine r_aload_n X 0 dX12_readPrize_92 rfl rfl ?_
        refine r_getI X fl_12_320 k_M_0_82 dX12_readPrize_93 ?_
        obtain ⟨q4, hq4, hf⟩ := bd_some hf
        refine r_callVV X (As := [mI 5, mI (sg 0 82)]) (st := []) (as := fun ad => [.ref (ad 0), mI 5, mI (sg 0 82)]) (c_M_fail hq4) rfl yw_X12_fail yv_X12_fail ml_RX12_351 o_M_0 rfl rfl ⟨rfl, rfl⟩ ⟨Nat.le_of_ble_eq_true rfl, Nat.le_of_ble_eq_true rfl⟩ rfl rfl (Nat.le_of_ble_eq_true rfl) dX12_readPrize_96 ?_
        exact b_M_readPrize_99_ok X hkc hk237 hf
      · have hf := ite_no hc3 hf
        exact b_M_readPrize_99_ok X hkc hk237 hf
    · have hf := ite_no hc2 hf
      refine r_perm (lv2 := [(0, .ref (ad 0)), (1, mI x1)]) [0, 1] rfl ?_
      exact hk237 _ _ hf
set_option maxRecDepth 100000 in
set_option maxHeartbeats 4000000 in
theorem l_M_readPrize_70_ok {p : Program} {l : Launch} {e : Env} {s : State} {m : MethodId} {args : Array Value} {below : List Frame} {meth : Method} {c : Code} {D : va_G} {cy : Nat → ClassId} {ad : Nat → Nat} (X : CX p s m args meth c cX12_readPrize RX12 5 none D shM cy ad (aw shM ad)) {F : Nat} {k237 : St → Int → Option (St)} {q : St} (hk237 : ∀ sg x1, k237 sg x1 = some q → GG p l e rm_M_readPrize s m args below meth c (QV D shM cy ad below args s q) D shM cy ad (aw shM ad) 5 237 [(0, .ref (ad 0)), (1, mI x1)] [] sg) : ∀ (n : Nat) (sg : St) (x1 x2 x3 : Int), l_M_readPrize_70  F k237 n sg x1 x2 x3 = some q → GG p l e rm_M_readPrize s m args below meth c (QV D shM cy ad below args s q) D shM cy ad (aw shM ad) 5 70 [(0, .ref (ad 0)), (1, mI x1), (2, mI x2), (3, mI x3)] [] sg := by
  intro n
  induction n with
  | zero => intro sg x1 x2 x3 h; cases h
  | succ n ih => exact fun sg x1 x2 x3 h => b_M_readPrize_70_ok X ih hk237 h
set_option maxRecDepth 100000 in
set_option maxHeartbeats 4000000 in
theorem b_M_readPrize_332_ok {p : Program} {l : Launch} {e : Env} {s : State} {m : MethodId} {args : Array Value} {below : List Frame} {meth : Method} {c : Code} {D : va_G} {cy : Nat → ClassId} {ad : Nat → Nat} (X : CX p s m args meth c cX12_readPrize RX12 5 none D shM cy ad (aw shM ad)) {F : Nat} {q : St} {sg : St} (hf : b_M_readPrize_332  F  sg  = some q) : GG p l e rm_M_readPrize s m args below meth c (QV D shM cy ad below args s q) D shM cy ad (aw shM ad) 5 332 [(0, .ref (ad 0))] [] sg := by
  refine r_aload_n X 0 dX12_readPrize_332 rfl rfl ?_
  refine r_getI X fl_12_326 k_M_0_81 dX12_readPrize_333 ?_
  refine r_iconst X dX12_readPrize_336 ?_
  refine r_icmp_eq (tgt := 345) X dX12_readPrize_337 (by decide) (fun hc1 => ?_) (fun hc1 => ?_)
  · have hf := ite_yes hc1 hf
    refine r_aload_n X 0 dX12_readPrize_345 rfl rfl ?_
    obtain ⟨q3, hq3, hf⟩ := bd_some hf
    refine r_callVV X (As := []) (st := []) (as := fun ad => [.ref (ad 0)]) (c_M_next hq3) rfl yw_X12_next yv_X12_next ml_RX12_358 o_M_0 rfl rfl ⟨rfl, rfl⟩ ⟨Nat.le_of_ble_eq_true rfl, Nat.le_of_ble_eq_true rfl⟩ rfl rfl (Nat.le_of_ble_eq_true rfl) dX12_readPrize_346 ?_
    refine r_aload_n X 0 dX12_readPrize_349 rfl rfl ?_
    refine r_dup X dX12_readPrize_350 rfl ?_
    refine r_getI X fl_12_369 k_M_0_52 dX12_readPrize_351 ?_
    refine r_iconst X dX12_readPrize_354 ?_
    refine r_iadd X dX12_readPrize_355 ?_
    refine r_putI X fp_12_369 k_M_0_52 rfl rfl dX12_readPrize_356 ?_
    exact r_vreturn X hf dX12_readPrize_359
  · have hf := ite_no hc1 hf
    refine r_aload_n X 0 dX12_readPrize_340 rfl rfl ?_
    obtain ⟨q2, hq2, hf⟩ := bd_some hf
    refine r_callVV X (As := []) (st := []) (as := fun ad => [.ref (ad 0)]) (c_M_wrong hq2) rfl yw_X12_wrong yv_X12_wrong ml_RX12_355 o_M_0 rfl rfl ⟨rfl, rfl⟩ ⟨Nat.le_of_ble_eq_true rfl, Nat.le_of_ble_eq_true rfl⟩ rfl rfl (Nat.le_of_ble_eq_true rfl) dX12_readPrize_341 ?_
    exact r_vreturn X hf dX12_readPrize_344
set_option maxRecDepth 100000 in
set_option maxHeartbeats 4000000 in
theorem b_M_readPrize_237_ok {p : Program} {l : Launch} {e : Env} {s : State} {m : MethodId} {args : Array Value} {below : List Frame} {meth : Method} {c : Code} {D : va_G} {cy : Nat → ClassId} {ad : Nat → Nat} (X : CX p s m args meth c cX12_readPrize RX12 5 none D shM cy ad (aw shM ad)) {F : Nat} {q : St} {sg : St} {x1 : Int} (hf : b_M_readPrize_237  F  sg x1 = some q) : GG p l e rm_M_readPrize s m args below meth c (QV D shM cy ad below args s q) D shM cy ad (aw shM ad) 5 237 [(0, .ref (ad 0)), (1, mI x1)] [] sg := by
  refine r_aload_n X 0 dX12_readPrize_237 rfl rfl ?_
  refine r_getI X fl_12_345 k_M_0_49 dX12_readPrize_238 ?_
  refine r_if_le (tgt := 245) X dX12_readPrize_241 (by decide) (fun hc1 => ?_) (fun hc1 => ?_)
  · have hf := ite_yes hc1 hf
    refine r_aload_n X 0 dX12_readPrize_245 rfl rfl ?_
    refine r_bipush X dX12_readPrize_246 (by decide) ?_
    refine r_bipush X dX12_readPrize_248 (by decide) ?_
    refine r_bipush X dX12_readPrize_250 (by decide) ?_
    refine r_bipush X dX12_readPrize_252 (by decide) ?_
    refine r_iconst X dX12_readPrize_254 ?_
    refine r_iconst X dX12_readPrize_255 ?_
    obtain ⟨q2, hq2, hf⟩ := bd_some hf
    refine r_callSL X (As := [mI 98, mI 101, mI 115, mI 116, mI 0, mI 0]) (st := [.ref (ad 0)]) (as := fun ad => [mI 98, mI 101, mI 115, mI 116, mI 0, mI 0]) (c_M_spelled hq2) rfl yw_X12_spelled ys_X12_spelled ml_RX12_361 ⟨rfl, rfl⟩ ⟨Nat.le_of_ble_eq_true rfl, Nat.le_of_ble_eq_true rfl⟩ rfl rfl (Nat.le_of_ble_eq_true rfl) dX12_readPrize_256 ?_
    obtain ⟨q3, hq3, hf⟩ := bd_some hf
    refine r_callVI X (As := [mL q2.1]) (st := []) (as := fun ad => [.ref (ad 0), mL q2.1]) (c_M_isWord hq3) rfl yw_X12_isWord yv_X12_isWord ml_RX12_365 o_M_0 rfl rfl ⟨rfl, rfl⟩ ⟨Nat.le_of_ble_eq_true rfl, Nat.le_of_ble_eq_true rfl⟩ rfl rfl (Nat.le_of_ble_eq_true rfl) dX12_readPrize_259 ?_
    refine r_if_ne (tgt := 270) X dX12_readPrize_262 (by decide) (fun hc4 => ?_) (fun hc4 => ?_)
    · have hf := ite_yes hc4 hf
      refine r_aload_n X 0 dX12_readPrize_265 rfl rfl ?_
      obtain ⟨q5, hq5, hf⟩ := bd_some hf
      refine r_callVV X (As := []) (st := []) (as := fun ad => [.ref (ad 0)]) (c_M_wrong hq5) rfl yw_X12_wrong yv_X12_wrong ml_RX12_355 o_M_0 rfl rfl ⟨rfl, rfl⟩ ⟨Nat.le_of_ble_eq_true rfl, Nat.le_of_ble_eq_true rfl⟩ rfl rfl (Nat.le_of_ble_eq_true rfl) dX12_readPrize_266 ?_
      exact r_vreturn X hf dX12_readPrize_269
    · have hf := ite_no hc4 hf
      refine r_aload_n X 0 dX12_readPrize_270 rfl rfl ?_
      obtain ⟨q6, hq6, hf⟩ := bd_some hf
      refine r_callVV X (As := []) (st := []) (as := fun ad => [.ref (ad 0)]) (c_M_next hq6) rfl yw_X12_next yv_X12_next ml_RX12_358 o_M_0 rfl rfl ⟨rfl, rfl⟩ ⟨Nat.le_of_ble_eq_true rfl, Nat.le_of_ble_eq_true rfl⟩ rfl rfl (Nat.le_of_ble_eq_true rfl) dX12_readPrize_271 ?_
      refine r_aload_n X 0 dX12_readPrize_274 rfl rfl ?_
      refine r_getR X fl_12_153 k_M_0_63 dX12_readPrize_275 ?_
      refine r_iload_n X 1 dX12_readPrize_278 rfl rfl ?_
      refine r_aload_n X 0 dX12_readPrize_279 rfl rfl ?_
      refine r_iconst X dX12_readPrize_280 ?_
      refine r_bipush X dX12_readPrize_281 (by decide) ?_
      obtain ⟨q7, hq7, hf⟩ := bd_some hf
      refine r_callVI X (As := [mI 1, mI 24]) (st := [mI x1, .ref (ad 43)]) (as := fun ad => [.ref (ad 0), mI 1, mI 24]) (c_M_numberOf hq7) rfl yw_X12_numberOf yv_X12_numberOf ml_RX12_375 o_M_0 rfl rfl ⟨rfl, rfl⟩ ⟨Nat.le_of_ble_eq_true rfl, Nat.le_of_ble_eq_true rfl⟩ rfl rfl (Nat.le_of_ble_eq_true rfl) dX12_readPrize_283 ?_
      obtain ⟨hg8, hf⟩ := gd_some hf
      refine r_iast X a_M_43 hg8 dX12_readPrize_286 ?_
      refine r_aload_n X 0 dX12_readPrize_287 rfl rfl ?_
      refine r_getI X fl_12_345 k_M_0_49 dX12_readPrize_288 ?_
      refine r_if_le (tgt := 295) X dX12_readPrize_291 (by decide) (fun hc10 => ?_) (fun hc10 => ?_)
      · have hf := ite_yes hc10 hf
        refine r_aload_n X 0 dX12_readPrize_295 rfl rfl ?_
        refine r_getR X fl_12_156 k_M_0_64 dX12_readPrize_296 ?_
        refine r_iload_n X 1 dX12_readPrize_299 rfl rfl ?_
        refine r_aload_n X 0 dX12_readPrize_300 rfl rfl ?_
        refine r_bipush X dX12_readPrize_301 (by decide) ?_
        refine r_bipush X dX12_readPrize_303 (by decide) ?_
        refine r_bipush X dX12_readPrize_305 (by decide) ?_
        refine r_bipush X dX12_readPrize_307 (by decide) ?_
        refine r_bipush X dX12_readPrize_309 (by decide) ?_
        refine r_iconst X dX12_readPrize_311 ?_
        obtain ⟨q11, hq11, hf⟩ := bd_some hf
        refine r_callSL X (As := [mI 97, mI 108, mI 111, mI 110, mI 101, mI 0]) (st := [.ref (ad 0), mI x1, .ref (ad 44)]) (as := fun ad => [mI 97, mI 108, mI 111, mI 110, mI 101, mI 0]) (c_M_spelled hq11) rfl yw_X12_spelled ys_X12_spelled ml_RX12_361 ⟨rfl, rfl⟩ ⟨Nat.le_of_ble_eq_true rfl, Nat.le_of_ble_eq_true rfl⟩ rfl rfl (Nat.le_of_ble_eq_true rfl) dX12_readPrize_312 ?_
        obtain ⟨q12, hq12, hf⟩ := bd_some hf
        refine r_callVI X (As := [mL q11.1]) (st := [mI x1, .ref (ad 44)]) (as := fun ad => [.ref (ad 0), mL q11.1]) (c_M_isWord hq12) rfl yw_X12_isWord yv_X12_isWord ml_RX12_365 o_M_0 rfl rfl ⟨rfl, rfl⟩ ⟨Nat.le_of_ble_eq_true rfl, Nat.le_of_ble_eq_true rfl⟩ rfl rfl (Nat.le_of_ble_eq_true rfl) dX12_readPrize_315 ?_
        obtain ⟨hg13, hf⟩ := gd_some hf
        refine r_zast X a_M_44 hg13 dX12_readPrize_318 ?_
        refine r_aload_n X 0 dX12_readPrize_319 rfl rfl ?_
        refine r_getR X fl_12_156 k_M_0_64 dX12_readPrize_320 ?_
        refine r_iload_n X 1 dX12_readPrize_323 rfl rfl ?_
        obtain ⟨hg15, hf⟩ := gd_some hf
        refine r_zald X a_M_44 hg15 dX12_readPrize_324 ?_
        refine r_if_eq (tgt := 332) X dX12_readPrize_325 (by decide) (fun hc16 => ?_) (fun hc16 => ?_)
        · have hf := ite_yes hc16 hf
          refine r_perm (lv2 := [(0, .ref (ad 0))]) [0] rfl ?_
          exact b_M_readPrize_332_ok X  hf
        · have hf := ite_no hc16 hf
          refine r_aload_n X 0 dX12_readPrize_328 rfl rfl ?_
          obtain ⟨q17, hq17, hf⟩ := bd_some hf
          refine r_callVV X (As := []) (st := []) (as := fun ad => [.ref (ad 0)]) (c_M_next hq17) rfl yw_X12_next yv_X12_next ml_RX12_358 o_M_0 rfl rfl ⟨rfl, rfl⟩ ⟨Nat.le_of_ble_eq_true rfl, Nat.le_of_ble_eq_true rfl⟩ rfl rfl (Nat.le_of_ble_eq_true rfl) dX12_readPrize_329 ?_
          refine r_perm (lv2 := [(0, .ref (ad 0))]) [0] rfl ?_
          exact b_M_readPrize_332_ok X  hf
      · have hf := ite_no hc10 hf
        exact r_vreturn X hf dX12_readPrize_294
  · have hf := ite_no hc1 hf
    exact r_vreturn X hf dX12_readPrize_244
set_option maxRecDepth 100000 in
set_option maxHeartbeats 4000000 in
theorem c_M_readPrize {l : Launch} {F : Nat} {sg : St} {q : St} (hf : f_M_readPrize F  sg  = some q) : MV l shM yX12_readPrize cX12_readPrize 5 none rm_M_readPrize (fun ad => [.ref (ad 0)]) sg q := by
  refine mk_v (by decide) (fun _ => Nat.le_of_ble_eq_true rfl) (fun p e s m args below meth c D cy ad X => ?_)
  have X : CX p s m args meth c cX12_readPrize RX12 5 none D shM cy ad (aw shM ad) := X
  refine r_perm (lv2 := [(0, .ref (ad 0))]) [0] rfl ?_
  refine r_aload_n X 0 dX12_readPrize_0 rfl rfl ?_
  refine r_getI X fl_12_369 k_M_0_52 dX12_readPrize_1 ?_
  refine r_bipush X dX12_readPrize_4 (by decide) ?_
  refine r_icmp_ne (tgt := 19) X dX12_readPrize_6 (by decide) (fun hc1 => ?_) (fun hc1 => ?_)
  · have hf := ite_yes hc1 hf
    refine r_aload_n X 0 dX12_readPrize_9 rfl rfl ?_
    refine r_iconst X dX12_readPrize_10 ?_
    refine r_aload_n X 0 dX12_readPrize_11 rfl rfl ?_
    refine r_getI X fl_12_320 k_M_0_82 dX12_readPrize_12 ?_
    obtain ⟨q2, hq2, hf⟩ := bd_some hf
    refine r_callVV X (As := [mI 3, mI (sg 0 82)]) (st := []) (as := fun ad => [.ref (ad 0), mI 3, mI (sg 0 82)]) (c_M_fail hq2) rfl yw_X12_fail yv_X12_fail ml_RX12_351 o_M_0 rfl rfl ⟨rfl, rfl⟩ ⟨Nat.le_of_ble_eq_true rfl, Nat.le_of_ble_eq_true rfl⟩ rfl rfl (Nat.le_of_ble_eq_true rfl) dX12_readPrize_15 ?_
    exact r_vreturn X hf dX12_readPrize_18
  · have hf := ite_no hc1 hf
    refine r_aload_n X 0 dX12_readPrize_19 rfl rfl ?_
    refine r_getI X fl_12_369 k_M_0_52 dX12_readPrize_20 ?_
    refine r_istore_n (lv2 := [(1, mI (sg 0 52)), (0, .ref (ad 0))]) X dX12_readPrize_23 rfl (by decide) rfl ?_
    refine r_aload_n X 1 dX12_readPrize_24 rfl rfl ?_
    obtain ⟨q3, hq3, hf⟩ := bd_some hf
    refine r_callVV X (As := []) (st := []) (as := fun ad => [.ref (ad 0)]) (c_M_next hq3) rfl yw_X12_next yv_X12_next ml_RX12_358 o_M_0 rfl rfl ⟨rfl, rfl⟩ ⟨Nat.le_of_ble_eq_true rfl, Nat.le_of_ble_eq_true rfl⟩ rfl rfl (Nat.le_of_ble_eq_true rfl) dX12_readPrize_25 ?_
    refine r_aload_n X 1 dX12_readPrize_28 rfl rfl ?_
    refine r_getR X fl_12_141 k_M_0_59 dX12_readPrize_29 ?_
    refine r_iload_n X 0 dX12_readPrize_32 rfl rfl ?_
    refine r_iconst X dX12_readPrize_33 ?_
    obtain ⟨hg4, hf⟩ := gd_some hf
    refine r_iast X a_M_39 hg4 dX12_readPrize_34 ?_
    refine r_aload_n X 1 dX12_readPrize_35 rfl rfl ?_
    refine r_getR X fl_12_144 k_M_0_60 dX12_readPrize_36 ?_
    refine r_iload_n X 0 dX12_readPrize_39 rfl rfl ?_
    refine r_iconst X dX12_readPrize_40 ?_
    obtain ⟨hg6, hf⟩ := gd_some hf
    refine r_iast X a_M_40 hg6 dX12_readPrize_41 ?_
    refine r_aload_n X 1 dX12_readPrize_42 rfl rfl ?_
    refine r_getR X fl_12_147 k_M_0_61 dX12_readPrize_43 ?_
    refine r_iload_n X 0 dX12_readPrize_46 rfl rfl ?_
    refine r_iconst X dX12_readPrize_47 ?_
    obtain ⟨hg8, hf⟩ := gd_some hf
    refine r_iast X a_M_41 hg8 dX12_readPrize_48 ?_
    refine r_aload_n X 1 dX12_readPrize_49 rfl rfl ?_
    refine r_getR X fl_12_150 k_M_0_62 dX12_readPrize_50 ?_
    refine r_iload_n X 0 dX12_readPrize_53 rfl rfl ?_
    refine r_iconst X dX12_readPrize_54 ?_
    obtain ⟨hg10, hf⟩ := gd_some hf
    refine r_iast X a_M_42 hg10 dX12_readPrize_55 ?_
    refine r_aload_n X 1 dX12_readPrize_56 rfl rfl ?_
    refine r_getR X fl_12_156 k_M_0_64 dX12_readPrize_57 ?_
    refine r_iload_n X 0 dX12_readPrize_60 rfl rfl ?_
    refine r_iconst X dX12_readPrize_61 ?_
    obtain ⟨hg12, hf⟩ := gd_some hf
    refine r_zast X a_M_44 hg12 dX12_readPrize_62 ?_
    refine r_iconst X dX12_readPrize_63 ?_
    refine r_istore_n (lv2 := [(2, mI 0), (1, mI (sg 0 52)), (0, .ref (ad 0))]) X dX12_readPrize_64 rfl (by decide) rfl ?_
    refine r_aload_n X 2 dX12_readPrize_65 rfl rfl ?_
    obtain ⟨q14, hq14, hf⟩ := bd_some hf
    refine r_callVI X (As := []) (st := []) (as := fun ad => [.ref (ad 0)]) (c_M_wishOf hq14) rfl yw_X12_wishOf yv_X12_wishOf ml_RX12_372 o_M_0 rfl rfl ⟨rfl, rfl⟩ ⟨Nat.le_of_ble_eq_true rfl, Nat.le_of_ble_eq_true rfl⟩ rfl rfl (Nat.le_of_ble_eq_true rfl) dX12_readPrize_66 ?_
    refine r_istore_n (lv2 := [(3, mI q14.1), (2, mI 0), (1, mI (sg 0 52)), (0, .ref (ad 0))]) X dX12_readPrize_69 rfl (by decide) rfl ?_
    refine r_perm (lv2 := [(0, .ref (ad 0)), (1, mI (sg 0 52)), (2, mI 0), (3, mI q14.1)]) [3, 2, 1, 0] rfl ?_
    refine l_M_readPrize_70_ok X ?_ F _ _ _ _ hf
    · intro s15 x1_16 hf
      exact b_M_readPrize_237_ok X  hf
