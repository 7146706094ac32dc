set_option maxRecDepth 100000 in
set_option maxHeartbeats 4000000 in
theorem b_Scale_gather_7_ok {p : Program} {l : Launch} {e : Env} {s : State} {m : MethodId} {args : Array Value} {below : List Frame} {meth : Method} {c : Code} {D : va_G} {cy : Nat → ClassId} {ad : Nat → Nat} (X : CX p s m args meth c cX9_gather RX9 4 none D shX cy ad (aw shX ad)) {F : Nat} {kc : St → Int → Int → Option (St)} {k57 : St → Option (St)} {q : St} (hkc : ∀ sg x2 x3, kc sg x2 x3 = some q → GG p l e rm_Scale_gather s m args below meth c (QV D shX cy ad below args s q) D shX cy ad (aw shX ad) 4 7 [(0, .ref (ad 29)), (1, .ref (ad 25)), (2, mI x2), (3, mI x3)] [] sg) (hk57 : ∀ sg , k57 sg  = some q → GG p l e rm_Scale_gather s m args below meth c (QV D shX cy ad below args s q) D shX cy ad (aw shX ad) 4 57 [] [] sg) {sg : St} {x2 x3 : Int} (hf : b_Scale_gather_7  F kc k57 sg x2 x3 = some q) : GG p l e rm_Scale_gather s m args below meth c (QV D shX cy ad below args s q) D shX cy ad (aw shX ad) 4 7 [(0, .ref (ad 29)), (1, .ref (ad 25)), (2, mI x2), (3, mI x3)] [] sg := by
  refine r_iload_n X 3 dX9_gather_7 rfl rfl ?_
  refine r_bipush X dX9_gather_8 (by decide) ?_
  refine r_icmp_ge (tgt := 57) X dX9_gather_10 (by decide) (fun hc1 => ?_) (fun hc1 => ?_)
  · have hf := ite_yes hc1 hf
    refine r_perm (lv2 := []) [] rfl ?_
    exact hk57 _ hf
  · have hf := ite_no hc1 hf
    refine r_aload_n X 1 dX9_gather_13 rfl rfl ?_
    refine r_getR X fl_9_30 k_X_25_0 dX9_gather_14 ?_
    refine r_iload_n X 3 dX9_gather_17 rfl rfl ?_
    obtain ⟨hg2, hf⟩ := gd_some hf
    refine r_iald X a_X_26 hg2 dX9_gather_18 ?_
    refine r_iload_n X 2 dX9_gather_19 rfl rfl ?_
    refine r_icmp_ne (tgt := 51) X dX9_gather_20 (by decide) (fun hc3 => ?_) (fun hc3 => ?_)
    · have hf := ite_yes hc3 hf
      refine r_aload_n X 0 dX9_gather_23 rfl rfl ?_
      refine r_getI X fl_9_50 k_X_29_2 dX9_gather_24 ?_
      refine r_iconst X dX9_gather_27 ?_
      refine r_icmp_ge (tgt := 51) X dX9_gather_28 (by decide) (fun hc4 => ?_) (fun hc4 => ?_)
      · have hf := ite_yes hc4 hf
        refine r_iinc (lv2 := [(3, mI (x3 + 1)), (0, .ref (ad 29)), (1, .ref (ad 25)), (2, mI x2)]) X 3 dX9_gather_51 rfl (by decide) rfl ?_
        refine r_goto (tgt := 7) X dX9_gather_54 (by decide) ?_
        refine r_perm (lv2 := [(0, .ref (ad 29)), (1, .ref (ad 25)), (2, mI x2), (3, mI (x3 + 1))]) [1, 2, 3, 0] rfl ?_
        exact hkc _ _ _ hf
      · have hf := ite_no hc4 hf
        refine r_aload_n X 0 dX9_gather_31 rfl rfl ?_
        refine r_getR X fl_9_18 k_X_29_3 dX9_gather_32 ?_
        refine r_aload_n X 0 dX9_gather_35 rfl rfl ?_
        refine r_getI X fl_9_50 k_X_29_2 dX9_gather_36 ?_
        refine r_iload_n X 3 dX9_gather_39 rfl rfl ?_
        obtain ⟨hg5, hf⟩ := gd_some hf
        refine r_iast X a_X_32 hg5 dX9_gather_40 ?_
        refine r_aload_n X 0 dX9_gather_41 rfl rfl ?_
        refine r_dup X dX9_gather_42 rfl ?_
        refine r_getI X fl_9_50 k_X_29_2 dX9_gather_43 ?_
        refine r_iconst X dX9_gather_46 ?_
        refine r_iadd X dX9_gather_47 ?_
        refine r_putI X fp_9_50 k_X_29_2 rfl rfl dX9_gather_48 ?_
        refine r_iinc (lv2 := [(3, mI (x3 + 1)), (0, .ref (ad 29)), (1, .ref (ad 25)), (2, mI x2)]) X 3 dX9_gather_51 rfl (by decide) rfl ?_
        refine r_goto (tgt := 7) X dX9_gather_54 (by decide) ?_
        refine r_perm (lv2 := [(0, .ref (ad 29)), (1, .ref (ad 25)), (2, mI x2), (3, mI (x3 + 1))]) [1, 2, 3, 0] rfl ?_
        exact hkc _ _ _ hf
    · have hf := ite_no hc3 hf
      refine r_iinc (lv2 := [(3, mI (x3 + 1)), (0, .ref (ad 29)), (1, .ref (ad 25)), (2, mI x2)]) X 3 dX9_gather_51 rfl (by decide) rfl ?_
      refine r_goto (tgt := 7) X dX9_gather_54 (by decide) ?_
      refine r_perm (lv2 := [(0, .ref (ad 29)), (1, .ref (ad 25)), (2, mI x2), (3, mI (x3 + 1))]) [1, 2, 3, 0] rfl ?_
      exact hkc _ _ _ hf
set_option maxRecDepth 100000 in
set_option maxHeartbeats 4000000 in
theorem l_Scale_gather_7_ok {p : Program} {l : Launch} {e : Env} {s : State} {m : MethodId} {args : Array Value} {below : List Frame} {meth : Method} {c : Code} {D : va_G} {cy : Nat → ClassId} {ad : Nat → Nat} (X : CX p s m args meth c cX9_gather RX9 4 none D shX cy ad (aw shX ad)) {F : Nat} {k57 : St → Option (St)} {q : St} (hk57 : ∀ sg , k57 sg  = some q → GG p l e rm_Scale_gather s m args below meth c (QV D shX cy ad below args s q) D shX cy ad (aw shX ad) 4 57 [] [] sg) : ∀ (n : Nat) (sg : St) (x2 x3 : Int), l_Scale_gather_7  F k57 n sg x2 x3 = some q → GG p l e rm_Scale_gather s m args below meth c (QV D shX cy ad below args s q) D shX cy ad (aw shX ad) 4 7 [(0, .ref (ad 29)), (1, .ref (ad 25)), (2, mI x2), (3, mI x3)] [] sg := by
  intro n
  induction n with
  | zero => intro sg x2 x3 h; cases h
  | succ n ih => exact fun sg x2 x3 h => b_Scale_gather_7_ok X ih hk57 h
set_option maxRecDepth 100000 in
set_option maxHeartbeats 4000000 in
theorem c_Scale_gather {l : Launch} {F : Nat} {sg : St} {x2 : Int} {q : St} (hf : f_Scale_gather F  sg x2 = some q) : MV l shX yX9_gather cX9_gather 4 none rm_Scale_gather (fun ad => [.ref (ad 29), .ref (ad 25), mI x2]) sg q := by
  refine mk_v (by decide) (fun _ => Nat.le_of_ble_eq_true rfl) (fun p e s m args below meth c D cy ad X => ?_)
  have X : CX p s m args meth c cX9_gather RX9 4 none D shX cy ad (aw shX ad) := X
  refine r_perm (lv2 := [(0, .ref (ad 29)), (1, .ref (ad 25)), (2, mI x2)]) [0, 1, 2] rfl ?_
  refine r_aload_n X 0 dX9_gather_0 rfl rfl ?_
  refine r_iconst X dX9_gather_1 ?_
  refine r_putI X fp_9_50 k_X_29_2 rfl rfl dX9_gather_2 ?_
  refine r_iconst X dX9_gather_5 ?_
  refine r_istore_n (lv2 := [(3, mI 0), (0, .ref (ad 29)), (1, .ref (ad 25)), (2, mI x2)]) X dX9_gather_6 rfl (by decide) rfl ?_
  refine r_perm (lv2 := [(0, .ref (ad 29)), (1, .ref (ad 25)), (2, mI x2), (3, mI 0)]) [1, 2, 3, 0] rfl ?_
  refine l_Scale_gather_7_ok X ?_ F _ _ _ hf
  · intro s2  hf
    exact r_vreturn X hf dX9_gather_57
set_option maxRecDepth 100000 in
set_option maxHeartbeats 4000000 in
theorem b_Scale_takeShares_3_ok {p : Program} {l : Launch} {e : Env} {s : State} {m : MethodId} {args : Array Value} {below : List Frame} {meth : Method} {c : Code} {D : va_G} {cy : Nat → ClassId} {ad : Nat → Nat} (X : CX p s m args meth c cX9_takeShares RX9 6 none D shX cy ad (aw shX ad)) {F : Nat} {kc : St → Int → Int → Int → Int → Option (St)} {k49 : St → Option (St)} {q : St} (hkc : ∀ sg x2 x3 x4 x5, kc sg x2 x3 x4 x5 = some q → GG p l e rm_Scale_takeShares s m args below meth c (QV D shX cy ad below args s q) D shX cy ad (aw shX ad) 6 3 [(0, .ref (ad 29)), (1, .ref (ad 25)), (2, mI x2), (3, mI x3), (4, mI x4), (5, mI x5)] [] sg) (hk49 : ∀ sg , k49 sg  = some q → GG p l e rm_Scale_takeShares s m args below meth c (QV D shX cy ad below args s q) D shX cy ad (aw shX ad) 6 49 [] [] sg) {sg : St} {x2 x3 x4 x5 : Int} (hf : b_Scale_takeShares_3  F kc k49 sg x2 x3 x4 x5 = some q) : GG p l e rm_Scale_takeShares s m args below meth c (QV D shX cy ad below args s q) D shX cy ad (aw shX ad) 6 3 [(0, .ref (ad 29)), (1, .ref (ad 25)), (2, mI x2), (3, mI x3), (4, mI x4), (5, mI x5)] [] sg := by
  refine r_iload X 5 dX9_takeShares_3 rfl ?_
  refine r_aload_n X 0 dX9_takeShares_5 rfl rfl ?_
  refine r_getI X fl_9_50 k_X_29_2 dX9_takeShares_6 ?_
  refine r_icmp_ge (tgt := 49) X dX9_takeShares_9 (by decide) (fun hc1 => ?_) (fun hc1 => ?_)
  · have hf := ite_yes hc1 hf
    refine r_perm (lv2 := []) [] rfl ?_
    exact hk49 _ hf
  · have hf := ite_no hc1 hf
    refine r_aload_n X 1 dX9_takeShares_12 rfl rfl ?_
    refine r_aload_n X 0 dX9_takeShares_13 rfl rfl ?_
    refine r_getR X fl_9_18 k_X_29_3 dX9_takeShares_14 ?_
    refine r_iload X 5 dX9_takeShares_17 rfl ?_
    obtain ⟨hg2, hf⟩ := gd_some hf
    refine r_iald X a_X_32 hg2 dX9_takeShares_19 ?_
    refine r_iload_n X 2 dX9_takeShares_20 rfl rfl ?_
    obtain ⟨q3, hq3, hf⟩ := bd_some hf
    refine r_callVI X (As := [mI (sg 32 (ix x5)), mI x2]) (st := []) (as := fun ad => [.ref (ad 25), mI (sg 32 (ix x5)), mI x2]) (c_Known_pointsOf hq3) rfl yw_X5_pointsOf yv_X5_pointsOf ml_RX9_60 o_X_25 rfl rfl ⟨rfl, rfl⟩ ⟨Nat.le_of_ble_eq_true rfl, Nat.le_of_ble_eq_true rfl⟩ rfl rfl (Nat.le_of_ble_eq_true rfl) dX9_takeShares_21 ?_
    refine r_iconst X dX9_takeShares_24 ?_
    refine r_icmp_eq (tgt := 43) X dX9_takeShares_25 (by decide) (fun hc4 => ?_) (fun hc4 => ?_)
    · have hf := ite_yes hc4 hf
      refine r_iinc (lv2 := [(5, mI (x5 + 1)), (0, .ref (ad 29)), (1, .ref (ad 25)), (2, mI x2), (3, mI x3), (4, mI x4)]) X 5 dX9_takeShares_43 rfl (by decide) rfl ?_
      refine r_goto (tgt := 3) X dX9_takeShares_46 (by decide) ?_
      refine r_perm (lv2 := [(0, .ref (ad 29)), (1, .ref (ad 25)), (2, mI x2), (3, mI x3), (4, mI x4), (5, mI (x5 + 1))]) [1, 2, 3, 4, 5, 0] rfl ?_
      exact hkc _ _ _ _ _ hf
    · have hf := ite_no hc4 hf
      refine r_aload_n X 0 dX9_takeShares_28 rfl rfl ?_
      refine r_getR X fl_9_24 k_X_29_4 dX9_takeShares_29 ?_
      refine r_iload_n X 3 dX9_takeShares_32 rfl rfl ?_
      obtain ⟨hg5, hf⟩ := gd_some hf
      refine r_aaldJ X sc_r hg5 dX9_takeShares_33 ?_
      refine r_iload X 5 dX9_takeShares_34 rfl ?_
      refine r_dup2 X dX9_takeShares_36 rfl rfl ?_
      obtain ⟨hg6, hf⟩ := gd_some hf
      refine r_lald X (sc_a (inb_ix hg5)) hg6 dX9_takeShares_37 ?_
      refine r_iload X 4 dX9_takeShares_38 rfl ?_
      refine r_i2l X dX9_takeShares_40 ?_
      refine r_lsub X dX9_takeShares_41 ?_
      obtain ⟨hg7, hf⟩ := gd_some hf
      refine r_last X (sc_a (inb_ix hg5)) hg7 dX9_takeShares_42 ?_
      refine r_iinc (lv2 := [(5, mI (x5 + 1)), (0, .ref (ad 29)), (1, .ref (ad 25)), (2, mI x2), (3, mI x3), (4, mI x4)]) X 5 dX9_takeShares_43 rfl (by decide) rfl ?_
      refine r_goto (tgt := 3) X dX9_takeShares_46 (by decide) ?_
      refine r_perm (lv2 := [(0, .ref (ad 29)), (1, .ref (ad 25)), (2, mI x2), (3, mI x3), (4, mI x4), (5, mI (x5 + 1))]) [1, 2, 3, 4, 5, 0] rfl ?_
      exact hkc _ _ _ _ _ hf
set_option maxRecDepth 100000 in
set_option maxHeartbeats 4000000 in
theorem l_Scale_takeShares_3_ok {p : Program} {l : Launch} {e : Env} {s : State} {m : MethodId} {args : Array Value} {below : List Frame} {meth : Method} {c : Code} {D : va_G} {cy : Nat → ClassId} {ad : Nat → Nat} (X : CX p s m args meth c cX9_takeShares RX9 6 none D shX cy ad (aw shX ad)) {F : Nat} {k49 : St → Option (St)} {q : St} (hk49 : ∀ sg , k49 sg  = some q → GG p l e rm_Scale_takeShares s m args below meth c (QV D shX cy ad below args s q) D shX cy ad (aw shX ad) 6 49 [] [] sg) : ∀ (n : Nat) (sg : St) (x2 x3 x4 x5 : Int), l_Scale_takeShares_3  F k49 n sg x2 x3 x4 x5 = some q → GG p l e rm_Scale_takeShares s m args below meth c (QV D shX cy ad below args s q) D shX cy ad (aw shX ad) 6 3 [(0, .ref (ad 29)), (1, .ref (ad 25)), (2, mI x2), (3, mI x3), (4, mI x4), (5, mI x5)] [] sg := by
  intro n
  induction n with
  | zero => intro sg x2 x3 x4 x5 h; cases h
  | succ n ih => exact fun sg x2 x3 x4 x5 h => b_Scale_takeShares_3_ok X ih hk49 h
set_option maxRecDepth 100000 in
set_option maxHeartbeats 4000000 in
theorem c_Scale_takeShares {l : Launch} {F : Nat} {sg : St} {x2 x3 x4 : Int} {q : St} (hf : f_Scale_takeShares F  sg x2 x3 x4 = some q) : MV l shX yX9_takeShares cX9_takeShares 6 none rm_Scale_takeShares (fun ad => [.ref (ad 29), .ref (ad 25), mI x2, mI x3, mI x4]) sg q := by
  refine mk_v (by decide) (fun _ => Nat.le_of_ble_eq_true rfl) (fun p e s m args below meth c D cy ad X => ?_)
  have X : CX p s m args meth c cX9_takeShares RX9 6 none D shX cy ad (aw shX ad) := X
  refine r_perm (lv2 := [(0, .ref (ad 29)), (1, .ref (ad 25)), (2, mI x2), (3, mI x3), (4, mI x4)]) [0, 1, 2, 3, 4] rfl ?_
  refine r_iconst X dX9_takeShares_0 ?_
  refine r_istore (lv2 := [(5, mI 0), (0, .ref (ad 29)), (1, .ref (ad 25)), (2, mI x2), (3, mI x3), (4, mI x4)]) X dX9_takeShares_1 (by decide) rfl ?_
  refine r_perm (lv2 := [(0, .ref (ad 29)), (1, .ref (ad 25)), (2, mI x2), (3, mI x3), (4, mI x4), (5, mI 0)]) [1, 2, 3, 4, 5, 0] rfl ?_
  refine l_Scale_takeShares_3_ok X ?_ F _ _ _ _ _ hf
  · intro s1  hf
    exact r_vreturn X hf dX9_takeShares_49
set_option maxRecDepth 100000 in
set_option maxHeartbeats 4000000 in
theorem b_Scale_minor_13_ok {p : Program} {l : Launch} {e : Env} {s : State} {m : MethodId} {args : Array Value} {below : List Frame} {meth : Method} {c : Code} {D : va_G} {cy : Nat → ClassId} {ad : Nat → Nat} (X : CX p s m args meth c cX9_minor RX9 12 (some .long) D shX cy ad (aw shX ad)) {F : Nat} {kc : St → Int → Int → Int → Int → Int → Option (Int × St)} {k108 : St → Int → Option (Int × St)} {q : Int × St} (hkc : ∀ sg x1 x2 x3 x4 x6, kc sg x1 x2 x3 x4 x6 = some q → GG p l e rm_Scale_minor s m args below meth c (QL D shX cy ad below args s q) D shX cy ad (aw shX ad) 12 13 [(0, .ref (ad 29)), (1, mI x1), (2, mI x2), (3, mI x3), (4, mL x4), (6, mI x6)] [] sg) (hk108 : ∀ sg x4, k108 sg x4 = some q → GG p l e rm_Scale_minor s m args below meth c (QL D shX cy ad below args s q) D shX cy ad (aw shX ad) 12 108 [(4, mL x4)] [] sg) {sg : St} {x1 x2 x3 x4 x6 : Int} (hf : b_Scale_minor_13  F kc k108 sg x1 x2 x3 x4 x6 = some q) : GG p l e rm_Scale_minor s m args below meth c (QL D shX cy ad below args s q) D shX cy ad (aw shX ad) 12 13 [(0, .ref (ad 29)), (1, mI x1), (2, mI x2), (3, mI x3), (4, mL x4), (6, mI x6)] [] sg := by
  refine r_iload X 5 dX9_minor_13 rfl ?_
  refine r_aload_n X 0 dX9_minor_15 rfl rfl ?_
  refine r_getI X fl_9_50 k_X_29_2 dX9_minor_16 ?_
  refine r_icmp_ge (tgt := 108) X dX9_minor_19 (by decide) (fun hc1 => ?_) (fun hc1 => ?_)
  · have hf := ite_yes hc1 hf
    refine r_perm (lv2 := [(4, mL x4)]) [4] rfl ?_
    exact hk108 _ _ hf
  · have hf := ite_no hc1 hf
    refine r_iload_n X 1 dX9_minor_22 rfl rfl ?_
    refine r_iload X 5 dX9_minor_23 rfl ?_
    refine r_ishr X dX9_minor_25 ?_
    refine r_iconst X dX9_minor_26 ?_
    refine r_iand X dX9_minor_27 ?_
    refine r_iconst X dX9_minor_28 ?_
    refine r_icmp_ne (tgt := 102) X dX9_minor_29 (by decide) (fun hc2 => ?_) (fun hc2 => ?_)
    · have hf := ite_yes hc2 hf
      refine r_aload_n X 0 dX9_minor_32 rfl rfl ?_
      refine r_getR X fl_9_24 k_X_29_4 dX9_minor_33 ?_
      refine r_iload_n X 3 dX9_minor_36 rfl rfl ?_
      obtain ⟨hg3, hf⟩ := gd_some hf
      refine r_aaldJ X sc_r hg3 dX9_minor_37 ?_
      refine r_iload X 5 dX9_minor_38 rfl ?_
      refine r_iload_n X 2 dX9_minor_40 rfl rfl ?_
      refine r_icmp_ne (tgt := 48) X dX9_minor_41 (by decide) (fun hc4 => ?_) (fun hc4 => ?_)
      · have hf := ite_yes hc4 hf
        refine r_iconst X dX9_minor_44 ?_
        refine r_goto (tgt := 50) X dX9_minor_45 (by decide) ?_
        obtain ⟨hg5, hf⟩ := gd_some hf
        refine r_lald X (sc_a (inb_ix hg3)) hg5 dX9_minor_50 ?_
        refine r_lstore (lv2 := [(7, mL (sg (34 + ix x3) (ix 5))), (0, .ref (ad 29)), (1, mI x1), (2, mI x2), (3, mI x3), (4, mL x4), (6, mI x6)]) X dX9_minor_51 (by decide) rfl ?_
        refine r_lload X 0 dX9_minor_53 rfl ?_
        refine r_aload_n X 1 dX9_minor_55 rfl rfl ?_
        refine r_getR X fl_9_27 k_X_29_5 dX9_minor_56 ?_
        refine r_iload_n X 2 dX9_minor_59 rfl rfl ?_
        refine r_iconst X dX9_minor_60 ?_
        refine r_iload X 6 dX9_minor_61 rfl ?_
        refine r_ishl X dX9_minor_63 ?_
        refine r_iconst X dX9_minor_64 ?_
        refine r_ixor X dX9_minor_65 ?_
        refine r_iand X dX9_minor_66 ?_
        obtain ⟨hg6, hf⟩ := gd_some hf
        refine r_lald X a_X_39 hg6 dX9_minor_67 ?_
        refine r_lmul X dX9_minor_68 ?_
        refine r_lstore (lv2 := [(9, mL ((sg (34 + ix x3) (ix 5)) * (sg 39 (ix (andI x1 (xorI (shlI 1 x6) (-1))))))), (7, mL (sg (34 + ix x3) (ix 5))), (0, .ref (ad 29)), (1, mI x1), (2, mI x2), (3, mI x3), (4, mL x4), (6, mI x6)]) X dX9_minor_69 (by decide) rfl ?_
        refine r_iload_n X 3 dX9_minor_71 rfl rfl ?_
        refine r_iload X 7 dX9_minor_72 rfl ?_
        refine r_iconst X dX9_minor_74 ?_
        refine r_iadd X dX9_minor_75 ?_
        refine r_ishr X dX9_minor_76 ?_
        obtain ⟨q7, hq7, hf⟩ := bd_some hf
        refine r_callSI X (As := [mI (shrI x1 (x6 + 1))]) (st := []) (as := fun ad => [mI (shrI x1 (x6 + 1))]) (c_XJ_bitCount hq7) rfl yw_J6_bitCount_0f7a4 ys_J6_bitCount_0f7a4 ml_RX9_83 ⟨rfl, rfl⟩ ⟨Nat.le_of_ble_eq_true rfl, Nat.le_of_ble_eq_true rfl⟩ rfl rfl (Nat.le_of_ble_eq_true rfl) dX9_minor_77 ?_
        refine r_istore (lv2 := [(11, mI q7.1), (9, mL ((sg (34 + ix x3) (ix 5)) * (sg 39 (ix (andI x1 (xorI (shlI 1 x6) (-1))))))), (7, mL (sg (34 + ix x3) (ix 5))), (0, .ref (ad 29)), (1, mI x1), (2, mI x2), (3, mI x3), (4, mL x4), (6, mI x6)]) X dX9_minor_80 (by decide) rfl ?_
        refine r_lload X 7 dX9_minor_82 rfl ?_
        refine r_iload X 0 dX9_minor_84 rfl ?_
        refine r_iconst X dX9_minor_86 ?_
        refine r_iand X dX9_minor_87 ?_
        refine r_if_ne (tgt := 96) X dX9_minor_88 (by decide) (fun hc8 => ?_) (fun hc8 => ?_)
        · have hf := ite_yes hc8 hf
          refine r_lload X 1 dX9_minor_91 rfl ?_
          refine r_goto (tgt := 99) X dX9_minor_93 (by decide) ?_
          refine r_ladd X dX9_minor_99 ?_
          refine r_lstore (lv2 := [(4, mL (x4 + ((sg (34 + ix x3) (ix 5)) * (sg 39 (ix (andI x1 (xorI (shlI 1 x6) (-1)))))))), (11, mI q7.1), (9, mL ((sg (34 + ix x3) (ix 5)) * (sg 39 (ix (andI x1 (xorI (shlI 1 x6) (-1))))))), (7, mL (sg (34 + ix x3) (ix 5))), (0, .ref (ad 29)), (1, mI x1), (2, mI x2), (3, mI x3), (6, mI x6)]) X dX9_minor_100 (by decide) rfl ?_
          refine r_iinc (lv2 := [(6, mI (x6 + 1)), (4, mL (x4 + ((sg (34 + ix x3) (ix 5)) * (sg 39 (ix (andI x1 (xorI (shlI 1 x6) (-1)))))))), (11, mI q7.1), (9, mL ((sg (34 + ix x3) (ix 5)) * (sg 39 (ix (andI x1 (xorI (shlI 1 x6) (-1))))))), (7, mL (sg (34 + ix x3) (ix 5))), (0, .ref (ad 29)), (1, mI x1), (2, mI x2), (3, mI x3)]) X 8 dX9_minor_102 rfl (by decide) rfl ?_
          refine r_goto (tgt := 13) X dX9_minor_105 (by decide) ?_
          refine r_perm (lv2 := [(0, .ref (ad 29)), (1, mI x1), (2, mI x2), (3, mI x3), (4, mL (x4 + ((sg (34 + ix x3) (ix 5)) * (sg 39 (ix (andI x1 (xorI (shlI 1 x6) (-1)))))))), (6, mI (x6 + 1))]) [5, 6, 7, 8, 1, 0] rfl ?_
          exact hkc _ _ _ _ _ _ hf
        · have hf := ite_no hc8 hf
          refine r_lload X 1 dX9_minor_96 rfl ?_
          refine r_lneg X dX9_minor_98 ?_
          refine r_ladd X dX9_minor_99 ?_
          refine r_lstore (lv2 := [(4, mL (x4 + (-((sg (34 + ix x3) (ix 5)) * (sg 39 (ix (andI x1 (xorI (shlI 1 x6) (-1))))))))), (11, mI q7.1), (9, mL ((sg (34 + ix x3) (ix 5)) * (sg 39 (ix (andI x1 (xorI (shlI 1 x6) (-1))))))), (7, mL (sg (34 + ix x3) (ix 5))), (0, .ref (ad 29)), (1, mI x1), (2, mI x2), (3, mI x3), (6, mI x6)]) X dX9_minor_100 (by decide) rfl ?_
          refine r_iinc (lv2 := [(6, mI (x6 + 1)), (4, mL (x4 + (-((sg (34 + ix x3) (ix 5)) * (sg 39 (ix (andI x1 (xorI (shlI 1 x6) (-1))))))))), (11, mI q7.1), (9, mL ((sg (34 + ix x3) (ix 5)) * (sg 39 (ix (andI x1 (xorI (shlI 1 x6) (-1))))))), (7, mL (sg (34 + ix x3) (ix 5))), (0, .ref (ad 29)), (1, mI x1), (2, mI x2), (3, mI x3)]) X 8 dX9_minor_102 rfl (by decide) rfl ?_
          refine r_goto (tgt := 13) X dX9_minor_105 (by decide) ?_
          refine r_perm (lv2 := [(0, .ref (ad 29)), (1, mI x1), (2, mI x2), (3, mI x3), (4, mL (x4 + (-((sg (34 + ix x3) (ix 5)) * (sg 39 (ix (andI x1 (xorI (shlI 1 x6) (-1))))))))), (6, mI (x6 + 1))]) [5, 6, 7, 8, 1, 0] rfl ?_
          exact hkc _ _ _ _ _ _ hf
      · have hf := ite_no hc4 hf
        refine r_iload X 5 dX9_minor_48 rfl ?_
        obtain ⟨hg9, hf⟩ := gd_some hf
        refine r_lald X (sc_a (inb_ix hg3)) hg9 dX9_minor_50 ?_
        refine r_lstore (lv2 := [(7, mL (sg (34 + ix x3) (ix x6))), (0, .ref (ad 29)), (1, mI x1), (2, mI x2), (3, mI x3), (4, mL x4), (6, mI x6)]) X dX9_minor_51 (by decide) rfl ?_
        refine r_lload X 0 dX9_minor_53 rfl ?_
        refine r_aload_n X 1 dX9_minor_55 rfl rfl ?_
        refine r_getR X fl_9_27 k_X_29_5 dX9_minor_56 ?_
        refine r_iload_n X 2 dX9_minor_59 rfl rfl ?_
        refine r_iconst X dX9_minor_60 ?_
        refine r_iload X 6 dX9_minor_61 rfl ?_
        refine r_ishl X dX9_minor_63 ?_
        refine r_iconst X dX9_minor_64 ?_
        refine r_ixor X dX9_minor_65 ?_
        refine r_iand X dX9_minor_66 ?_
        obtain ⟨hg10, hf⟩ := gd_some hf
        refine r_lald X a_X_39 hg10 dX9_minor_67 ?_
        refine r_lmul X dX9_minor_68 ?_
        refine r_lstore (lv2 := [(9, mL ((sg (34 + ix x3) (ix x6)) * (sg 39 (ix (andI x1 (xorI (shlI 1 x6) (-1))))))), (7, mL (sg (34 + ix x3) (ix x6))), (0, .ref (ad 29)), (1, mI x1), (2, mI x2), (3, mI x3), (4, mL x4), (6, mI x6)]) X dX9_minor_69 (by decide) rfl ?_
        refine r_iload_n X 3 dX9_minor_71 rfl rfl ?_
        refine r_iload X 7 dX9_minor_72 rfl ?_
        refine r_iconst X dX9_minor_74 ?_
        refine r_iadd X dX9_minor_75 ?_
        refine r_ishr X dX9_minor_76 ?_
        obtain ⟨q11, hq11, hf⟩ := bd_some hf
        refine r_callSI X (As := [mI (shrI x1 (x6 + 1))]) (st := []) (as := fun ad => [mI (shrI x1 (x6 + 1))]) (c_XJ_bitCount hq11) rfl yw_J6_bitCount_0f7a4 ys_J6_bitCount_0f7a4 ml_RX9_83 ⟨rfl, rfl⟩ ⟨Nat.le_of_ble_eq_true rfl, Nat.le_of_ble_eq_true rfl⟩ rfl rfl (Nat.le_of_ble_eq_true rfl) dX9_minor_77 ?_
        refine r_istore (lv2 := [(11, mI q11.1), (9, mL ((sg (34 + ix x3) (ix x6)) * (sg 39 (ix (andI x1 (xorI (shlI 1 x6) (-1))))))), (7, mL (sg (34 + ix x3) (ix x6))), (0, .ref (ad 29)), (1, mI x1), (2, mI x2), (3, mI x3), (4, mL x4), (6, mI x6)]) X dX9_minor_80 (by decide) rfl ?_
        refine r_lload X 7 dX9_minor_82 rfl ?_
        refine r_iload X 0 dX9_minor_84 rfl ?_
        refine r_iconst X dX9_minor_86 ?_
        refine r_iand X dX9_minor_87 ?_
        refine r_if_ne (tgt := 96) X dX9_minor_88 (by decide) (fun hc12 => ?_) (fun hc12 => ?_)
        · have hf := ite_yes hc12 hf
          refine r_lload X 1 dX9_minor_91 rfl ?_
          refine r_goto (tgt := 99) X dX9_minor_93 (by decide) ?_
          refine r_ladd X dX9_minor_99 ?_
          refine r_lstore (lv2 := [(4, mL (x4 + ((sg (34 + ix x3) (ix x6)) * (sg 39 (ix (andI x1 (xorI (shlI 1 x6) (-1)))))))), (11, mI q11.1), (9, mL ((sg (34 + ix x3) (ix x6)) * (sg 39 (ix (andI x1 (xorI (shlI 1 x6) (-1))))))), (7, mL (sg (34 + ix x3) (ix x6))), (0, .ref (ad 29)), (1, mI x1), (2, mI x2), (3, mI x3), (6, mI x6)]) X dX9_minor_100 (by decide) rfl ?_
          refine r_iinc (lv2 := [(6, mI (x6 + 1)), (4, mL (x4 + ((sg (34 + ix x3) (ix x6)) * (sg 39 (ix (andI x1 (xorI (shlI 1 x6) (-1)))))))), (11, mI q11.1), (9, mL ((sg (34 + ix x3) (ix x6)) * (sg 39 (ix (andI x1 (xorI (shlI 1 x6) (-1))))))), (7, mL (sg (34 + ix x3) (ix x6))), (0, .ref (ad 29)), (1, mI x1), (2, mI x2), (3, mI x3)]) X 8 dX9_minor_102 rfl (by decide) rfl ?_
          refine r_goto (tgt := 13) X dX9_minor_105 (by decide) ?_
          refine r_perm (lv2 := [(0, .ref (ad 29)), (1, mI x1), (2, mI x2), (3, mI x3), (4, mL (x4 + ((sg (34 + ix x3) (ix x6)) * (sg 39 (ix (andI x1 (xorI (shlI 1 x6) (-1)))))))), (6, mI (x6 + 1))]) [5, 6, 7, 8, 1, 0] rfl ?_
          exact hkc _ _ _ _ _ _ hf
        · have hf := ite_no hc12 hf
          refine r_lload X 1 dX9_minor_96 rfl ?_
          refine r_lneg X dX9_minor_98 ?_
          refine r_ladd X dX9_minor_99 ?_
          refine r_lstore (lv2 := [(4, mL (x4 + (-((sg (34 + ix x3) (ix x6)) * (sg 39 (ix (andI x1 (xorI (shlI 1 x6) (-1))))))))), (11, mI q11.1), (9, mL ((sg (34 + ix x3) (ix x6)) * (sg 39 (ix (andI x1 (xorI (shlI 1 x6) (-1))))))), (7, mL (sg (34 + ix x3) (ix x6))), (0, .ref (ad 29)), (1, mI x1), (2, mI x2), (3, mI x3), (6, mI x6)]) X dX9_minor_100 (by decide) rfl ?_
          refine r_iinc (lv2 := [(6, mI (x6 + 1)), (4, mL (x4 + (-((sg (34 + ix x3) (ix x6)) * (sg 39 (ix (andI x1 (xorI (shlI 1 x6) (-1))))))))), (11, mI q11.1), (9, mL ((sg (34 + ix x3) (ix x6)) * (sg 39 (ix (andI x1 (xorI (shlI 1 x6) (-1))))))), (7, mL (sg (34 + ix x3) (ix x6))), (0, .ref (ad 29)), (1, mI x1), (2, mI x2), (3, mI x3)]) X 8 dX9_minor_102 rfl (by decide) rfl ?_
          refine r_goto (tgt := 13) X dX9_minor_105 (by decide) ?_
          refine r_perm (lv2 := [(0, .ref (ad 29)), (1, mI x1), (2, mI x2), (3, mI x3), (4, mL (x4 + (-((sg (34 + ix x3) (ix x6)) * (sg 39 (ix (andI x1 (xorI (shlI 1 x6) (-1))))))))), (6, mI (x6 + 1))]) [5, 6, 7, 8, 1, 0] rfl ?_
          exact hkc _ _ _ _ _ _ hf
    · have hf := ite_no hc2 hf
      refine r_iinc (lv2 := [(6, mI (x6 + 1)), (0, .ref (ad 29)), (1, mI x1), (2, mI x2), (3, mI x3), (4, mL x4)]) X 5 dX9_minor_102 rfl (by decide) rfl ?_
      refine r_goto (tgt := 13) X dX9_minor_105 (by decide) ?_
      refine r_perm (lv2 := [(0, .ref (ad 29)), (1, mI x1), (2, mI x2), (3, mI x3), (4, mL x4), (6, mI (x6 + 1))]) [1, 2, 3, 4, 5, 0] rfl ?_
      exact hkc _ _ _ _ _ _ hf
set_option maxRecDepth 100000 in
set_option maxHeartbeats 4000000 in
theorem l_Scale_minor_13_ok {p : Program} {l : Launch} {e : Env} {s : State} {m : MethodId} {args : Array Value} {below : List Frame} {meth : Method} {c : Code} {D : va_G} {cy : Nat → ClassId} {ad : Nat → Nat} (X : CX p s m args meth c cX9_minor RX9 12 (some .long) D shX cy ad (aw shX ad)) {F : Nat} {k108 : St → Int → Option (Int × St)} {q : Int × St} (hk108 : ∀ sg x4, k108 sg x4 = some q → GG p l e rm_Scale_minor s m args below meth c (QL D shX cy ad below args s q) D shX cy ad (aw shX ad) 12 108 [(4, mL x4)] [] sg) : ∀ (n : Nat) (sg : St) (x1 x2 x3 x4 x6 : Int), l_Scale_minor_13  F k108 n sg x1 x2 x3 x4 x6 = some q → GG p l e rm_Scale_minor s m args below meth c (QL D shX cy ad below args s q) D shX cy ad (aw shX ad) 12 13 [(0, .ref (ad 29)), (1, mI x1), (2, mI x2), (3, mI x3), (4, mL x4), (6, mI x6)] [] sg := by
  intro n
  induction n with
  | zero => intro sg x1 x2 x3 x4 x6 h; cases h
  | succ n ih => exact fun sg x1 x2 x3 x4 x6 h => b_Scale_minor_13_ok X ih hk108 h
set_option maxRecDepth 100000 in
set_option maxHeartbeats 4000000 in
theorem c_Scale_minor {l : Launch} {F : Nat} {sg : St} {x1 x2 : Int} {q : Int × St} (hf : f_Scale_minor F  sg x1 x2 = some q) : ML l shX yX9_minor cX9_minor 12 (some .long) rm_Scale_minor (fun ad => [.ref (ad 29), mI x1, mI x2]) sg q.2 q.1 := by
  refine mk_l (by decide) (fun _ => Nat.le_of_ble_eq_true rfl) (fun p e s m args below meth c D cy ad X => ?_)
  have X : CX p s m args meth c cX9_minor RX9 12 (some .long) D shX cy ad (aw shX ad) := X
  refine r_perm (lv2 := [(0, .ref (ad 29)), (1, mI x1), (2, mI x2)]) [0, 1, 2] rfl ?_
  refine r_iload_n X 1 dX9_minor_0 rfl rfl ?_
  obtain ⟨q1, hq1, hf⟩ := bd_some hf
  refine r_callSI X (As := [mI x1]) (st := []) (as := fun ad => [mI x1]) (c_XJ_bitCount hq1) rfl yw_J6_bitCount_0f7a4 ys_J6_bitCount_0f7a4 ml_RX9_83 ⟨rfl, rfl⟩ ⟨Nat.le_of_ble_eq_true rfl, Nat.le_of_ble_eq_true rfl⟩ rfl rfl (Nat.le_of_ble_eq_true rfl) dX9_minor_1 ?_
  refine r_iconst X dX9_minor_4 ?_
  refine r_isub X dX9_minor_5 ?_
  refine r_istore_n (lv2 := [(3, mI (q1.1 - 1)), (0, .ref (ad 29)), (1, mI x1), (2, mI x2)]) X dX9_minor_6 rfl (by decide) rfl ?_
  refine r_lconst (v := 0) X dX9_minor_7 (by decide) ?_
  refine r_lstore (lv2 := [(4, mL 0), (3, mI (q1.1 - 1)), (0, .ref (ad 29)), (1, mI x1), (2, mI x2)]) X dX9_minor_8 (by decide) rfl ?_
  refine r_iconst X dX9_minor_10 ?_
  refine r_istore (lv2 := [(6, mI 0), (4, mL 0), (3, mI (q1.1 - 1)), (0, .ref (ad 29)), (1, mI x1), (2, mI x2)]) X dX9_minor_11 (by decide) rfl ?_
  refine r_perm (lv2 := [(0, .ref (ad 29)), (1, mI x1), (2, mI x2), (3, mI (q1.1 - 1)), (4, mL 0), (6, mI 0)]) [3, 4, 5, 2, 1, 0] rfl ?_
  refine l_Scale_minor_13_ok X ?_ F _ _ _ _ _ _ hf
  · intro s2 x4_3 hf
    refine r_lload X 0 dX9_minor_108 rfl ?_
    exact r_lreturn X hf dX9_minor_110
set_option maxRecDepth 100000 in
set_option maxHeartbeats 4000000 in
theorem b_Read_take_3_ok {p : Program} {l : Launch} {e : Env} {s : State} {m : MethodId} {args : Array Value} {below : List Frame} {meth : Method} {c : Code} {D : va_G} {cy : Nat → ClassId} {ad : Nat → Nat} (X : CX p s m args meth c cX10_take RX10 3 none D shX cy ad (aw shX ad)) {F : Nat} {kc : St → Int → Int → Option (St)} {k46 : St → Option (St)} {q : St} (hkc : ∀ sg x1 x2, kc sg x1 x2 = some q → GG p l e rm_Read_take s m args below meth c (QV D shX cy ad below args s q) D shX cy ad (aw shX ad) 3 3 [(0, .ref (ad 41)), (1, mI x1), (2, mI x2)] [] sg) (hk46 : ∀ sg , k46 sg  = some q → GG p l e rm_Read_take s m args below meth c (QV D shX cy ad below args s q) D shX cy ad (aw shX ad) 3 46 [] [] sg) {sg : St} {x1 x2 : Int} (hf : b_Read_take_3  F kc k46 sg x1 x2 = some q) : GG p l e rm_Read_take s m args below meth c (QV D shX cy ad below args s q) D shX cy ad (aw shX ad) 3 3 [(0, .ref (ad 41)), (1, mI x1), (2, mI x2)] [] sg := by
  refine r_iload_n X 2 dX10_take_3 rfl rfl ?_
  refine r_if_lt (tgt := 46) X dX10_take_4 (by decide) (fun hc1 => ?_) (fun hc1 => ?_)
  · have hf := ite_yes hc1 hf
    refine r_perm (lv2 := []) [] rfl ?_
    exact hk46 _ hf
  · have hf := ite_no hc1 hf
    refine r_aload_n X 0 dX10_take_7 rfl rfl ?_
    refine r_getI X fl_10_22 k_X_41_0 dX10_take_8 ?_
    refine r_sipush X dX10_take_11 (by decide) ?_
    refine r_icmp_ge (tgt := 46) X dX10_take_14 (by decide) (fun hc2 => ?_) (fun hc2 => ?_)
    · have hf := ite_yes hc2 hf
      refine r_perm (lv2 := []) [] rfl ?_
      exact hk46 _ hf
    · have hf := ite_no hc2 hf
      refine r_aload_n X 0 dX10_take_17 rfl rfl ?_
      refine r_getR X fl_10_18 k_X_41_3 dX10_take_18 ?_
      refine r_aload_n X 0 dX10_take_21 rfl rfl ?_
      refine r_getI X fl_10_22 k_X_41_0 dX10_take_22 ?_
      refine r_iload_n X 1 dX10_take_25 rfl rfl ?_
      refine r_iload_n X 2 dX10_take_26 rfl rfl ?_
      refine r_ishr X dX10_take_27 ?_
      refine r_i2b X dX10_take_28 ?_
      obtain ⟨hg3, hf⟩ := gd_some hf
      refine r_bast X a_X_42 hg3 dX10_take_29 ?_
      refine r_aload_n X 0 dX10_take_30 rfl rfl ?_
      refine r_dup X dX10_take_31 rfl ?_
      refine r_getI X fl_10_22 k_X_41_0 dX10_take_32 ?_
      refine r_iconst X dX10_take_35 ?_
      refine r_iadd X dX10_take_36 ?_
      refine r_putI X fp_10_22 k_X_41_0 rfl rfl dX10_take_37 ?_
      refine r_iinc (lv2 := [(2, mI (x2 + (-8))), (0, .ref (ad 41)), (1, mI x1)]) X 2 dX10_take_40 rfl (by decide) rfl ?_
      refine r_goto (tgt := 3) X dX10_take_43 (by decide) ?_
      refine r_perm (lv2 := [(0, .ref (ad 41)), (1, mI x1), (2, mI (x2 + (-8)))]) [1, 2, 0] rfl ?_
      exact hkc _ _ _ hf
set_option maxRecDepth 100000 in
set_option maxHeartbeats 4000000 in
theorem l_Read_take_3_ok {p : Program} {l : Launch} {e : Env} {s : State} {m : MethodId} {args : Array Value} {below : List Frame} {meth : Method} {c : Code} {D : va_G} {cy : Nat → ClassId} {ad : Nat → Nat} (X : CX p s m args meth c cX10_take RX10 3 none D shX cy ad (aw shX ad)) {F : Nat} {k46 : St → Option (St)} {q : St} (hk46 : ∀ sg , k46 sg  = some q → GG p l e rm_Read_take s m args below meth c (QV D shX cy ad below args s q) D shX cy ad (aw shX ad) 3 46 [] [] sg) : ∀ (n : Nat) (sg : St) (x1 x2 : Int), l_Read_take_3  F k46 n sg x1 x2 = some q → GG p l e rm_Read_take s m args below meth c (QV D shX cy ad below args s q) D shX cy ad (aw shX ad) 3 3 [(0, .ref (ad 41)), (1, mI x1), (2, mI x2)] [] sg := by
  intro n
  induction n with
  | zero => intro sg x1 x2 h; cases h
  | succ n ih => exact fun sg x1 x2 h => b_Read_take_3_ok X ih hk46 h
set_option maxRecDepth 100000 in
set_option maxHeartbeats 4000000 in
theorem c_Read_take {l : Launch} {F : Nat} {sg : St} {x1 : Int} {q : St} (hf : f_Read_take F  sg x1 = some q) : MV l shX yX10_take cX10_take 3 none rm_Read_take (fun ad => [.ref (ad 41), mI x1]) sg q := by
  refine mk_v (by decide) (fun _ => Nat.le_of_ble_eq_true rfl) (fun p e s m args below meth c D cy ad X => ?_)
  have X : CX p s m args meth c cX10_take RX10 3 none D shX cy ad (aw shX ad) := X
  refine r_perm (lv2 := [(0, .ref (ad 41)), (1, mI x1)]) [0, 1] rfl ?_
  refine r_bipush X dX10_take_0 (by decide) ?_
  refine r_istore_n (lv2 := [(2, mI 24), (0, .ref (ad 41)), (1, mI x1)]) X dX10_take_2 rfl (by decide) rfl ?_
  refine r_perm (lv2 := [(0, .ref (ad 41)), (1, mI x1), (2, mI 24)]) [1, 2, 0] rfl ?_
  refine l_Read_take_3_ok X ?_ F _ _ _ hf
  · intro s1  hf
    exact r_vreturn X hf dX10_take_46
set_option maxRecDepth 100000 in
set_option maxHeartbeats 4000000 in
theorem c_Read_blame {l : Launch} {sg : St} {x1 : Int} {q : St} (hf : f_Read_blame  sg x1 = some q) : MV l shX yX10_blame cX10_blame 2 none rm_Read_blame (fun ad => [.ref (ad 41), mI x1]) sg q := by
  refine mk_v (by decide) (fun _ => Nat.le_of_ble_eq_true rfl) (fun p e s m args below meth c D cy ad X => ?_)
  have X : CX p s m args meth c cX10_blame RX10 2 none D shX cy ad (aw shX ad) := X
  refine r_perm (lv2 := [(0, .ref (ad 41)), (1, mI x1)]) [0, 1] rfl ?_
  refine r_aload_n X 0 dX10_blame_0 rfl rfl ?_
  refine r_getI X fl_10_9 k_X_41_1 dX10_blame_1 ?_
  refine r_if_ne (tgt := 20) X dX10_blame_4 (by decide) (fun hc1 => ?_) (fun hc1 => ?_)
  · have hf := ite_yes hc1 hf
    refine r_aload_n X 0 dX10_blame_7 rfl rfl ?_
    refine r_iload_n X 1 dX10_blame_8 rfl rfl ?_
    refine r_putI X fp_10_9 k_X_41_1 rfl rfl dX10_blame_9 ?_
    refine r_aload_n X 0 dX10_blame_12 rfl rfl ?_
    refine r_aload_n X 0 dX10_blame_13 rfl rfl ?_
    refine r_getI X fl_10_111 k_X_41_6 dX10_blame_14 ?_
    refine r_putI X fp_10_15 k_X_41_2 rfl rfl dX10_blame_17 ?_
    exact r_vreturn X hf dX10_blame_20
  · have hf := ite_no hc1 hf
    exact r_vreturn X hf dX10_blame_20
set_option maxRecDepth 100000 in
set_option maxHeartbeats 4000000 in
theorem b_Read_isWord_28_ok {p : Program} {l : Launch} {e : Env} {s : State} {m : MethodId} {args : Array Value} {below : List Frame} {meth : Method} {c : Code} {D : va_G} {cy : Nat → ClassId} {ad : Nat → Nat} (X : CX p s m args meth c cX10_isWord RX10 3 (some .boolean) D shX cy ad (aw shX ad)) {cs : Nat} (hcs : KSc cs) {F : Nat} {kc : St → Int → Option (Int × St)} {k63 : St → Option (Int × St)} {q : Int × St} (hkc : ∀ sg x2, kc sg x2 = some q → GG p l e rm_Read_isWord s m args below meth c (QI D shX cy ad below args s q) D shX cy ad (aw shX ad) 3 28 [(0, .ref (ad 41)), (1, .ref (ad cs)), (2, mI x2)] [] sg) (hk63 : ∀ sg , k63 sg  = some q → GG p l e rm_Read_isWord s m args below meth c (QI D shX cy ad below args s q) D shX cy ad (aw shX ad) 3 63 [] [] sg) {sg : St} {x2 : Int} (hf : b_Read_isWord_28 cs F kc k63 sg x2 = some q) : GG p l e rm_Read_isWord s m args below meth c (QI D shX cy ad below args s q) D shX cy ad (aw shX ad) 3 28 [(0, .ref (ad 41)), (1, .ref (ad cs)), (2, mI x2)] [] sg := by
  refine r_iload_n X 2 dX10_isWord_28 rfl rfl ?_
  refine r_aload_n X 1 dX10_isWord_29 rfl rfl ?_
  obtain ⟨q1, hq1, hf⟩ := bd_some hf
  refine r_callKI X (As := []) (st := [mI x2]) (as := fun ad => [.ref (ad cs)]) (c_S_length hcs hq1) rfl yw_J0_length_8abf5 yv_J0_length_8abf5 ml_RX10_118 hcs rfl ⟨rfl, rfl⟩ ⟨Nat.le_of_ble_eq_true rfl, Nat.le_of_ble_eq_true rfl⟩ rfl rfl (Nat.le_of_ble_eq_true rfl) dX10_isWord_30 ?_
  refine r_icmp_ge (tgt := 63) X dX10_isWord_33 (by decide) (fun hc2 => ?_) (fun hc2 => ?_)
  · have hf := ite_yes hc2 hf
    refine r_perm (lv2 := []) [] rfl ?_
    exact hk63 _ hf
  · have hf := ite_no hc2 hf
    refine r_aload_n X 0 dX10_isWord_36 rfl rfl ?_
    refine r_getR X fl_10_18 k_X_41_3 dX10_isWord_37 ?_
    refine r_aload_n X 0 dX10_isWord_40 rfl rfl ?_
    refine r_getI X fl_10_111 k_X_41_6 dX10_isWord_41 ?_
    refine r_iload_n X 2 dX10_isWord_44 rfl rfl ?_
    refine r_iadd X dX10_isWord_45 ?_
    obtain ⟨hg3, hf⟩ := gd_some hf
    refine r_bald X a_X_42 hg3 dX10_isWord_46 ?_
    refine r_aload_n X 1 dX10_isWord_47 rfl rfl ?_
    refine r_iload_n X 2 dX10_isWord_48 rfl rfl ?_
    obtain ⟨q4, hq4, hf⟩ := bd_some hf
    refine r_callKI X (As := [mI x2]) (st := [mI (q1.2 42 (ix ((q1.2 41 6) + x2)))]) (as := fun ad => [.ref (ad cs), mI x2]) (c_S_charAt hcs hq4) rfl yw_J0_charAt_5068e yv_J0_charAt_5068e ml_RX10_122 hcs rfl ⟨rfl, rfl⟩ ⟨Nat.le_of_ble_eq_true rfl, Nat.le_of_ble_eq_true rfl⟩ rfl rfl (Nat.le_of_ble_eq_true rfl) dX10_isWord_49 ?_
    refine r_icmp_eq (tgt := 57) X dX10_isWord_52 (by decide) (fun hc5 => ?_) (fun hc5 => ?_)
    · have hf := ite_yes hc5 hf
      refine r_iinc (lv2 := [(2, mI (x2 + 1)), (0, .ref (ad 41)), (1, .ref (ad cs))]) X 2 dX10_isWord_57 rfl (by decide) rfl ?_
      refine r_goto (tgt := 28) X dX10_isWord_60 (by decide) ?_
      refine r_perm (lv2 := [(0, .ref (ad 41)), (1, .ref (ad cs)), (2, mI (x2 + 1))]) [1, 2, 0] rfl ?_
      exact hkc _ _ hf
    · have hf := ite_no hc5 hf
      refine r_iconst X dX10_isWord_55 ?_
      exact r_zreturn X hf rfl dX10_isWord_56
set_option maxRecDepth 100000 in
set_option maxHeartbeats 4000000 in
theorem l_Read_isWord_28_ok {p : Program} {l : Launch} {e : Env} {s : State} {m : MethodId} {args : Array Value} {below : List Frame} {meth : Method} {c : Code} {D : va_G} {cy : Nat → ClassId} {ad : Nat → Nat} (X : CX p s m args meth c cX10_isWord RX10 3 (some .boolean) D shX cy ad (aw shX ad)) {cs : Nat} (hcs : KSc cs) {F : Nat} {k63 : St → Option (Int × St)} {q : Int × St} (hk63 : ∀ sg , k63 sg  = some q → GG p l e rm_Read_isWord s m args below meth c (QI D shX cy ad below args s q) D shX cy ad (aw shX ad) 3 63 [] [] sg) : ∀ (n : Nat) (sg : St) (x2 : Int), l_Read_isWord_28 cs F k63 n sg x2 = some q → GG p l e rm_Read_isWord s m args below meth c (QI D shX cy ad below args s q) D shX cy ad (aw shX ad) 3 28 [(0, .ref (ad 41)), (1, .ref (ad cs)), (2, mI x2)] [] sg := by
  intro n
  induction n with
  | zero => intro sg x2 h; cases h
  | succ n ih => exact fun sg x2 h => b_Read_isWord_28_ok X hcs ih hk63 h
set_option maxRecDepth 100000 in
set_option maxHeartbeats 4000000 in
theorem c_Read_isWord {l : Launch} {F : Nat} {cs : Nat} (hcs : KSc cs) {sg : St} {q : Int × St} (hf : f_Read_isWord F cs sg  = some q) : MI l shX yX10_isWord cX10_isWord 3 (some .boolean) rm_Read_isWord (fun ad => [.ref (ad 41), .ref (ad cs)]) sg q.2 q.1 := by
  refine mk_i (by decide) (fun _ => Nat.le_of_ble_eq_true rfl) (fun p e s m args below meth c D cy ad X => ?_)
  have X : CX p s m args meth c cX10_isWord RX10 3 (some .boolean) D shX cy ad (aw shX ad) := X
  refine r_perm (lv2 := [(0, .ref (ad 41)), (1, .ref (ad cs))]) [0, 1] rfl ?_
  refine r_aload_n X 0 dX10_isWord_0 rfl rfl ?_
  refine r_getI X fl_10_45 k_X_41_5 dX10_isWord_1 ?_
  refine r_iconst X dX10_isWord_4 ?_
  refine r_icmp_ne (tgt := 24) X dX10_isWord_5 (by decide) (fun hc1 => ?_) (fun hc1 => ?_)
  · have hf := ite_yes hc1 hf
    refine r_aload_n X 0 dX10_isWord_8 rfl rfl ?_
    refine r_getI X fl_10_34 k_X_41_7 dX10_isWord_9 ?_
    refine r_aload_n X 0 dX10_isWord_12 rfl rfl ?_
    refine r_getI X fl_10_111 k_X_41_6 dX10_isWord_13 ?_
    refine r_isub X dX10_isWord_16 ?_
    refine r_aload_n X 1 dX10_isWord_17 rfl rfl ?_
    obtain ⟨q2, hq2, hf⟩ := bd_some hf
    refine r_callKI X (As := []) (st := [mI ((sg 41 7) - (sg 41 6))]) (as := fun ad => [.ref (ad cs)]) (c_S_length hcs hq2) rfl yw_J0_length_8abf5 yv_J0_length_8abf5 ml_RX10_118 hcs rfl ⟨rfl, rfl⟩ ⟨Nat.le_of_ble_eq_true rfl, Nat.le_of_ble_eq_true rfl⟩ rfl rfl (Nat.le_of_ble_eq_true rfl) dX10_isWord_18 ?_
    refine r_icmp_eq (tgt := 26) X dX10_isWord_21 (by decide) (fun hc3 => ?_) (fun hc3 => ?_)
    · have hf := ite_yes hc3 hf
      refine r_iconst X dX10_isWord_26 ?_
      refine r_istore_n (lv2 := [(2, mI 0), (0, .ref (ad 41)), (1, .ref (ad cs))]) X dX10_isWord_27 rfl (by decide) rfl ?_
      refine r_perm (lv2 := [(0, .ref (ad 41)), (1, .ref (ad cs)), (2, mI 0)]) [1, 2, 0] rfl ?_
      refine l_Read_isWord_28_ok X hcs ?_ F _ _ hf
      · intro s4  hf
        refine r_iconst X dX10_isWord_63 ?_
        exact r_zreturn X hf rfl dX10_isWord_64
    · have hf := ite_no hc3 hf
      refine r_iconst X dX10_isWord_24 ?_
      exact r_zreturn X hf rfl dX10_isWord_25
  · have hf := ite_no hc1 hf
    refine r_iconst X dX10_isWord_24 ?_
    exact r_zreturn X hf rfl dX10_isWord_25
set_option maxRecDepth 100000 in
set_option maxHeartbeats 4000000 in
theorem b_Read_endOfRun_5_ok {p : Program} {l : Launch} {e : Env} {s : State} {m : MethodId} {args : Array Value} {below : List Frame} {meth : Method} {c : Code} {D : va_G} {cy : Nat → ClassId} {ad : Nat → Nat} (X : CX p s m args meth c cX10_endOfRun RX10 4 (some .int) D shX cy ad (aw shX ad)) {F : Nat} {kc : St → Int → Int → Int → Option (Int × St)} {k39 : St → Int → Option (Int × St)} {q : Int × St} (hkc : ∀ sg x1 x2 x3, kc sg x1 x2 x3 = some q → GG p l e rm_Read_endOfRun s m args below meth c (QI D shX cy ad below args s q) D shX cy ad (aw shX ad) 4 5 [(0, .ref (ad 41)), (1, mI x1), (2, mI x2), (3, mI x3)] [] sg) (hk39 : ∀ sg x3, k39 sg x3 = some q → GG p l e rm_Read_endOfRun s m args below meth c (QI D shX cy ad below args s q) D shX cy ad (aw shX ad) 4 39 [(3, mI x3)] [] sg) {sg : St} {x1 x2 x3 : Int} (hf : b_Read_endOfRun_5  F kc k39 sg x1 x2 x3 = some q) : GG p l e rm_Read_endOfRun s m args below meth c (QI D shX cy ad below args s q) D shX cy ad (aw shX ad) 4 5 [(0, .ref (ad 41)), (1, mI x1), (2, mI x2), (3, mI x3)] [] sg := by
  refine r_iload_n X 3 dX10_endOfRun_5 rfl rfl ?_
  refine r_aload_n X 0 dX10_endOfRun_6 rfl rfl ?_
  refine r_getI X fl_10_31 k_X_41_4 dX10_endOfRun_7 ?_
  refine r_icmp_ge (tgt := 39) X dX10_endOfRun_10 (by decide) (fun hc1 => ?_) (fun hc1 => ?_)
  · have hf := ite_yes hc1 hf
    refine r_perm (lv2 := [(3, mI x3)]) [3] rfl ?_
    exact hk39 _ _ hf
  · have hf := ite_no hc1 hf
    refine r_aload_n X 0 dX10_endOfRun_13 rfl rfl ?_
    refine r_getR X fl_10_18 k_X_41_3 dX10_endOfRun_14 ?_
    refine r_iload_n X 3 dX10_endOfRun_17 rfl rfl ?_
    obtain ⟨hg2, hf⟩ := gd_some hf
    refine r_bald X a_X_42 hg2 dX10_endOfRun_18 ?_
    refine r_iload_n X 1 dX10_endOfRun_19 rfl rfl ?_
    refine r_icmp_lt (tgt := 39) X dX10_endOfRun_20 (by decide) (fun hc3 => ?_) (fun hc3 => ?_)
    · have hf := ite_yes hc3 hf
      refine r_perm (lv2 := [(3, mI x3)]) [3] rfl ?_
      exact hk39 _ _ hf
    · have hf := ite_no hc3 hf
      refine r_aload_n X 0 dX10_endOfRun_23 rfl rfl ?_
      refine r_getR X fl_10_18 k_X_41_3 dX10_endOfRun_24 ?_
      refine r_iload_n X 3 dX10_endOfRun_27 rfl rfl ?_
      obtain ⟨hg4, hf⟩ := gd_some hf
      refine r_bald X a_X_42 hg4 dX10_endOfRun_28 ?_
      refine r_iload_n X 2 dX10_endOfRun_29 rfl rfl ?_
      refine r_icmp_gt (tgt := 39) X dX10_endOfRun_30 (by decide) (fun hc5 => ?_) (fun hc5 => ?_)
      · have hf := ite_yes hc5 hf
        refine r_perm (lv2 := [(3, mI x3)]) [3] rfl ?_
        exact hk39 _ _ hf
      · have hf := ite_no hc5 hf
        refine r_iinc (lv2 := [(3, mI (x3 + 1)), (0, .ref (ad 41)), (1, mI x1), (2, mI x2)]) X 3 dX10_endOfRun_33 rfl (by decide) rfl ?_
        refine r_goto (tgt := 5) X dX10_endOfRun_36 (by decide) ?_
        refine r_perm (lv2 := [(0, .ref (ad 41)), (1, mI x1), (2, mI x2), (3, mI (x3 + 1))]) [1, 2, 3, 0] rfl ?_
        exact hkc _ _ _ _ hf
set_option maxRecDepth 100000 in
set_option maxHeartbeats 4000000 in
theorem l_Read_endOfRun_5_ok {p : Program} {l : Launch} {e : Env} {s : State} {m : MethodId} {args : Array Value} {below : List Frame} {meth : Method} {c : Code} {D : va_G} {cy : Nat → ClassId} {ad : Nat → Nat} (X : CX p s m args meth c cX10_endOfRun RX10 4 (some .int) D shX cy ad (aw shX ad)) {F : Nat} {k39 : St → Int → Option (Int × St)} {q : Int × St} (hk39 : ∀ sg x3, k39 sg x3 = some q → GG p l e rm_Read_endOfRun s m args below meth c (QI D shX cy ad below args s q) D shX cy ad (aw shX ad) 4 39 [(3, mI x3)] [] sg) : ∀ (n : Nat) (sg : St) (x1 x2 x3 : Int), l_Read_endOfRun_5  F k39 n sg x1 x2 x3 = some q → GG p l e rm_Read_endOfRun s m args below meth c (QI D shX cy ad below args s q) D shX cy ad (aw shX ad) 4 5 [(0, .ref (ad 41)), (1, mI x1), (2, mI x2), (3, mI x3)] [] sg := by
  intro n
  induction n with
  | zero => intro sg x1 x2 x3 h; cases h
  | succ n ih => exact fun sg x1 x2 x3 h => b_Read_endOfRun_5_ok X ih hk39 h
set_option maxRecDepth 100000 in
set_option maxHeartbeats 4000000 in
theorem c_Read_endOfRun {l : Launch} {F : Nat} {sg : St} {x1 x2 : Int} {q : Int × St} (hf : f_Read_endOfRun F  sg x1 x2 = some q) : MI l shX yX10_endOfRun cX10_endOfRun 4 (some .int) rm_Read_endOfRun (fun ad => [.ref (ad 41), mI x1, mI x2]) sg q.2 q.1 := by
  refine mk_i (by decide) (fun _ => Nat.le_of_ble_eq_true rfl) (fun p e s m args below meth c D cy ad X => ?_)
  have X : CX p s m args meth c cX10_endOfRun RX10 4 (some .int) D shX cy ad (aw shX ad) := X
  refine r_perm (lv2 := [(0, .ref (ad 41)), (1, mI x1), (2, mI x2)]) [0, 1, 2] rfl ?_
  refine r_aload_n X 0 dX10_endOfRun_0 rfl rfl ?_
  refine r_getI X fl_10_111 k_X_41_6 dX10_endOfRun_1 ?_
  refine r_istore_n (lv2 := [(3, mI (sg 41 6)), (0, .ref (ad 41)), (1, mI x1), (2, mI x2)]) X dX10_endOfRun_4 rfl (by decide) rfl ?_
  refine r_perm (lv2 := [(0, .ref (ad 41)), (1, mI x1), (2, mI x2), (3, mI (sg 41 6))]) [1, 2, 3, 0] rfl ?_
  refine l_Read_endOfRun_5_ok X ?_ F _ _ _ _ hf
  · intro s1 x3_2 hf
    refine r_iload_n X 0 dX10_endOfRun_39 rfl rfl ?_
    exact r_ireturn X hf dX10_endOfRun_40
set_option maxRecDepth 100000 in
set_option maxHeartbeats 4000000 in
theorem c_H_status {l : Launch} {sg : St} {q : Int × St} (hf : f_H_status  sg  = some q) : MI l shX yX11_status cX11_status 1 (some .int) rm_H_status (fun ad => [.ref (ad 0)]) sg q.2 q.1 := by
  refine mk_i (by decide) (fun _ => Nat.le_of_ble_eq_true rfl) (fun p e s m args below meth c D cy ad X => ?_)
  have X : CX p s m args meth c cX11_status RX11 1 (some .int) D shX cy ad (aw shX ad) := X
  refine r_perm (lv2 := [(0, .ref (ad 0))]) [0] rfl ?_
  refine r_aload_n X 0 dX11_status_0 rfl rfl ?_
  refine r_getI X fl_11_93 k_X_0_13 dX11_status_1 ?_
  exact r_ireturn X hf dX11_status_4
set_option maxRecDepth 100000 in
set_option maxHeartbeats 4000000 in
theorem c_H_upper {l : Launch} {sg : St} {q : Int × St} (hf : f_H_upper  sg  = some q) : ML l shX yX11_upper cX11_upper 1 (some .long) rm_H_upper (fun ad => [.ref (ad 0)]) sg q.2 q.1 := by
  refine mk_l (by decide) (fun _ => Nat.le_of_ble_eq_true rfl) (fun p e s m args below meth c D cy ad X => ?_)
  have X : CX p s m args meth c cX11_upper RX11 1 (some .long) D shX cy ad (aw shX ad) := X
  refine r_perm (lv2 := [(0, .ref (ad 0))]) [0] rfl ?_
  refine r_aload_n X 0 dX11_upper_0 rfl rfl ?_
  refine r_getR X fl_11_54 k_X_0_6 dX11_upper_1 ?_
  refine r_getL X fl_11_230 k_X_40_0 dX11_upper_4 ?_
  exact r_lreturn X hf dX11_upper_7
set_option maxRecDepth 100000 in
set_option maxHeartbeats 4000000 in
theorem c_H_lower {l : Launch} {sg : St} {q : Int × St} (hf : f_H_lower  sg  = some q) : ML l shX yX11_lower cX11_lower 1 (some .long) rm_H_lower (fun ad => [.ref (ad 0)]) sg q.2 q.1 := by
  refine mk_l (by decide) (fun _ => Nat.le_of_ble_eq_true rfl) (fun p e s m args below meth c D cy ad X => ?_)
  have X : CX p s m args meth c cX11_lower RX11 1 (some .long) D shX cy ad (aw shX ad) := X
  refine r_perm (lv2 := [(0, .ref (ad 0))]) [0] rfl ?_
  refine r_aload_n X 0 dX11_lower_0 rfl rfl ?_
  refine r_getR X fl_11_54 k_X_0_6 dX11_lower_1 ?_
  refine r_getL X fl_11_234 k_X_40_1 dX11_lower_4 ?_
  exact r_lreturn X hf dX11_lower_7
set_option maxRecDepth 100000 in
set_option maxHeartbeats 4000000 in
theorem c_H_feed {l : Launch} {F : Nat} {sg : St} {x1 x2 x3 x4 x5 : Int} {q : Int × St} (hf : f_H_feed F  sg x1 x2 x3 x4 x5 = some q) : MI l shX yX11_feed cX11_feed 6 (some .int) rm_H_feed (fun ad => [.ref (ad 0), mI x1, mI x2, mI x3, mI x4, mI x5]) sg q.2 q.1 := by
  refine mk_i (by decide) (fun _ => Nat.le_of_ble_eq_true rfl) (fun p e s m args below meth c D cy ad X => ?_)
  have X : CX p s m args meth c cX11_feed RX11 6 (some .int) D shX cy ad (aw shX ad) := X
  refine r_perm (lv2 := [(0, .ref (ad 0)), (1, mI x1), (2, mI x2), (3, mI x3), (4, mI x4), (5, mI x5)]) [0, 1, 2, 3, 4, 5] rfl ?_
  refine r_aload_n X 0 dX11_feed_0 rfl rfl ?_
  refine r_getR X fl_11_61 k_X_0_7 dX11_feed_1 ?_
  refine r_getI X fl_11_237 k_X_41_0 dX11_feed_4 ?_
  refine r_bipush X dX11_feed_7 (by decide) ?_
  refine r_iadd X dX11_feed_9 ?_
  refine r_sipush X dX11_feed_10 (by decide) ?_
  refine r_icmp_le (tgt := 18) X dX11_feed_13 (by decide) (fun hc1 => ?_) (fun hc1 => ?_)
  · have hf := ite_yes hc1 hf
    refine r_aload_n X 0 dX11_feed_18 rfl rfl ?_
    refine r_getR X fl_11_61 k_X_0_7 dX11_feed_19 ?_
    refine r_iload_n X 1 dX11_feed_22 rfl rfl ?_
    obtain ⟨q2, hq2, hf⟩ := bd_some hf
    refine r_callVV X (As := [mI x1]) (st := []) (as := fun ad => [.ref (ad 41), mI x1]) (c_Read_take hq2) rfl yw_X10_take yv_X10_take ml_RX11_240 o_X_41 rfl rfl ⟨rfl, rfl⟩ ⟨Nat.le_of_ble_eq_true rfl, Nat.le_of_ble_eq_true rfl⟩ rfl rfl (Nat.le_of_ble_eq_true rfl) dX11_feed_23 ?_
    refine r_aload_n X 0 dX11_feed_26 rfl rfl ?_
    refine r_getR X fl_11_61 k_X_0_7 dX11_feed_27 ?_
    refine r_iload_n X 2 dX11_feed_30 rfl rfl ?_
    obtain ⟨q3, hq3, hf⟩ := bd_some hf
    refine r_callVV X (As := [mI x2]) (st := []) (as := fun ad => [.ref (ad 41), mI x2]) (c_Read_take hq3) rfl yw_X10_take yv_X10_take ml_RX11_240 o_X_41 rfl rfl ⟨rfl, rfl⟩ ⟨Nat.le_of_ble_eq_true rfl, Nat.le_of_ble_eq_true rfl⟩ rfl rfl (Nat.le_of_ble_eq_true rfl) dX11_feed_31 ?_
    refine r_aload_n X 0 dX11_feed_34 rfl rfl ?_
    refine r_getR X fl_11_61 k_X_0_7 dX11_feed_35 ?_
    refine r_iload_n X 3 dX11_feed_38 rfl rfl ?_
    obtain ⟨q4, hq4, hf⟩ := bd_some hf
    refine r_callVV X (As := [mI x3]) (st := []) (as := fun ad => [.ref (ad 41), mI x3]) (c_Read_take hq4) rfl yw_X10_take yv_X10_take ml_RX11_240 o_X_41 rfl rfl ⟨rfl, rfl⟩ ⟨Nat.le_of_ble_eq_true rfl, Nat.le_of_ble_eq_true rfl⟩ rfl rfl (Nat.le_of_ble_eq_true rfl) dX11_feed_39 ?_
    refine r_aload_n X 0 dX11_feed_42 rfl rfl ?_
    refine r_getR X fl_11_61 k_X_0_7 dX11_feed_43 ?_
    refine r_iload X 4 dX11_feed_46 rfl ?_
    obtain ⟨q5, hq5, hf⟩ := bd_some hf
    refine r_callVV X (As := [mI x4]) (st := []) (as := fun ad => [.ref (ad 41), mI x4]) (c_Read_take hq5) rfl yw_X10_take yv_X10_take ml_RX11_240 o_X_41 rfl rfl ⟨rfl, rfl⟩ ⟨Nat.le_of_ble_eq_true rfl, Nat.le_of_ble_eq_true rfl⟩ rfl rfl (Nat.le_of_ble_eq_true rfl) dX11_feed_48 ?_
    refine r_aload_n X 0 dX11_feed_51 rfl rfl ?_
    refine r_getR X fl_11_61 k_X_0_7 dX11_feed_52 ?_
    refine r_iload X 5 dX11_feed_55 rfl ?_
    obtain ⟨q6, hq6, hf⟩ := bd_some hf
    refine r_callVV X (As := [mI x5]) (st := []) (as := fun ad => [.ref (ad 41), mI x5]) (c_Read_take hq6) rfl yw_X10_take yv_X10_take ml_RX11_240 o_X_41 rfl rfl ⟨rfl, rfl⟩ ⟨Nat.le_of_ble_eq_true rfl, Nat.le_of_ble_eq_true rfl⟩ rfl rfl (Nat.le_of_ble_eq_true rfl) dX11_feed_57 ?_
    refine r_aload_n X 0 dX11_feed_60 rfl rfl ?_
    refine r_getR X fl_11_61 k_X_0_7 dX11_feed_61 ?_
    refine r_getI X fl_11_237 k_X_41_0 dX11_feed_64 ?_
    exact r_ireturn X hf dX11_feed_67
  · have hf := ite_no hc1 hf
    refine r_iconst X dX11_feed_16 ?_
    exact r_ireturn X hf dX11_feed_17
set_option maxRecDepth 100000 in
set_option maxHeartbeats 4000000 in
theorem c_H_fault {l : Launch} {sg : St} {x1 : Int} {q : Int × St} (hf : f_H_fault  sg x1 = some q) : MI l shX yX11_fault cX11_fault 2 (some .int) rm_H_fault (fun ad => [.ref (ad 0), mI x1]) sg q.2 q.1 := by
  refine mk_i (by decide) (fun _ => Nat.le_of_ble_eq_true rfl) (fun p e s m args below meth c D cy ad X => ?_)
  have X : CX p s m args meth c cX11_fault RX11 2 (some .int) D shX cy ad (aw shX ad) := X
  refine r_perm (lv2 := [(0, .ref (ad 0)), (1, mI x1)]) [0, 1] rfl ?_
  refine r_iload_n X 1 dX11_fault_0 rfl rfl ?_
  refine r_if_ne (tgt := 12) X dX11_fault_1 (by decide) (fun hc1 => ?_) (fun hc1 => ?_)
  · have hf := ite_yes hc1 hf
    refine r_aload_n X 0 dX11_fault_4 rfl rfl ?_
    refine r_getR X fl_11_61 k_X_0_7 dX11_fault_5 ?_
    refine r_getI X fl_11_248 k_X_41_1 dX11_fault_8 ?_
    exact r_ireturn X hf dX11_fault_11
  · have hf := ite_no hc1 hf
    refine r_iload_n X 1 dX11_fault_12 rfl rfl ?_
    refine r_iconst X dX11_fault_13 ?_
    refine r_icmp_ne (tgt := 27) X dX11_fault_14 (by decide) (fun hc2 => ?_) (fun hc2 => ?_)
    · have hf := ite_yes hc2 hf
      refine r_aload_n X 0 dX11_fault_17 rfl rfl ?_
      refine r_getR X fl_11_61 k_X_0_7 dX11_fault_18 ?_
      refine r_getI X fl_11_252 k_X_41_2 dX11_fault_21 ?_
      refine r_goto (tgt := 28) X dX11_fault_24 (by decide) ?_
      exact r_ireturn X hf dX11_fault_28
    · have hf := ite_no hc2 hf
      refine r_iconst X dX11_fault_27 ?_
      exact r_ireturn X hf dX11_fault_28
set_option maxRecDepth 100000 in
set_option maxHeartbeats 4000000 in
theorem c_H_answer {l : Launch} {sg : St} {x1 : Int} {q : Int × St} (hf : f_H_answer  sg x1 = some q) : MI l shX yX11_answer cX11_answer 2 (some .int) rm_H_answer (fun ad => [.ref (ad 0), mI x1]) sg q.2 q.1 := by
  refine mk_i (by decide) (fun _ => Nat.le_of_ble_eq_true rfl) (fun p e s m args below meth c D cy ad X => ?_)
  have X : CX p s m args meth c cX11_answer RX11 2 (some .int) D shX cy ad (aw shX ad) := X
  refine r_perm (lv2 := [(0, .ref (ad 0)), (1, mI x1)]) [0, 1] rfl ?_
  refine r_aload_n X 0 dX11_answer_0 rfl rfl ?_
  refine r_iconst X dX11_answer_1 ?_
  refine r_putI X fp_11_93 k_X_0_13 rfl rfl dX11_answer_2 ?_
  refine r_iload_n X 1 dX11_answer_5 rfl rfl ?_
  exact r_ireturn X hf dX11_answer_6
set_option maxRecDepth 100000 in
set_option maxHeartbeats 4000000 in
theorem c_H_yes {l : Launch} {sg : St} {q : Int × St} (hf : f_H_yes  sg  = some q) : MI l shX yX11_yes cX11_yes 1 (some .boolean) rm_H_yes (fun ad => [.ref (ad 0)]) sg q.2 q.1 := by
  refine mk_i (by decide) (fun _ => Nat.le_of_ble_eq_true rfl) (fun p e s m args below meth c D cy ad X => ?_)
  have X : CX p s m args meth c cX11_yes RX11 1 (some .boolean) D shX cy ad (aw shX ad) := X
  refine r_perm (lv2 := [(0, .ref (ad 0))]) [0] rfl ?_
  refine r_aload_n X 0 dX11_yes_0 rfl rfl ?_
  refine r_iconst X dX11_yes_1 ?_
  refine r_putI X fp_11_93 k_X_0_13 rfl rfl dX11_yes_2 ?_
  refine r_iconst X dX11_yes_5 ?_
  exact r_zreturn X hf rfl dX11_yes_6
set_option maxRecDepth 100000 in
set_option maxHeartbeats 4000000 in
theorem c_H_none {l : Launch} {sg : St} {x1 : Int} {q : Int × St} (hf : f_H_none  sg x1 = some q) : MI l shX yX11_none cX11_none 2 (some .int) rm_H_none (fun ad => [.ref (ad 0), mI x1]) sg q.2 q.1 := by
  refine mk_i (by decide) (fun _ => Nat.le_of_ble_eq_true rfl) (fun p e s m args below meth c D cy ad X => ?_)
  have X : CX p s m args meth c cX11_none RX11 2 (some .int) D shX cy ad (aw shX ad) := X
  refine r_perm (lv2 := [(0, .ref (ad 0)), (1, mI x1)]) [0, 1] rfl ?_
  refine r_aload_n X 0 dX11_none_0 rfl rfl ?_
  refine r_iload_n X 1 dX11_none_1 rfl rfl ?_
  refine r_putI X fp_11_93 k_X_0_13 rfl rfl dX11_none_2 ?_
  refine r_iconst X dX11_none_5 ?_
  exact r_ireturn X hf dX11_none_6
set_option maxRecDepth 100000 in
set_option maxHeartbeats 4000000 in
theorem c_H_no {l : Launch} {sg : St} {x1 : Int} {q : Int × St} (hf : f_H_no  sg x1 = some q) : MI l shX yX11_no cX11_no 2 (some .boolean) rm_H_no (fun ad => [.ref (ad 0), mI x1]) sg q.2 q.1 := by
  refine mk_i (by decide) (fun _ => Nat.le_of_ble_eq_true rfl) (fun p e s m args below meth c D cy ad X => ?_)
  have X : CX p s m args meth c cX11_no RX11 2 (some .boolean) D shX cy ad (aw shX ad) := X
  refine r_perm (lv2 := [(0, .ref (ad 0)), (1, mI x1)]) [0, 1] rfl ?_
  refine r_aload_n X 0 dX11_no_0 rfl rfl ?_
  refine r_iload_n X 1 dX11_no_1 rfl rfl ?_
  refine r_putI X fp_11_93 k_X_0_13 rfl rfl dX11_no_2 ?_
  refine r_iconst X dX11_no_5 ?_
  exact r_zreturn X hf rfl dX11_no_6
set_option maxRecDepth 100000 in
set_option maxHeartbeats 4000000 in
theorem c_H_within {l : Launch} {sg : St} {x0 x1 x2 : Int} {q : Int × St} (hf : f_H_within  sg x0 x1 x2 = some q) : MI l shX yX11_within cX11_within 3 (some .boolean) rm_H_within (fun ad => [mI x0, mI x1, mI x2]) sg q.2 q.1 := by
  refine mk_i (by decide) (fun _ => Nat.le_of_ble_eq_true rfl) (fun p e s m args below meth c D cy ad X => ?_)
  have X : CX p s m args meth c cX11_within RX11 3 (some .boolean) D shX cy ad (aw shX ad) := X
  refine r_perm (lv2 := [(0, mI x0), (1, mI x1), (2, mI x2)]) [0, 1, 2] rfl ?_
  refine r_iload_n X 0 dX11_within_0 rfl rfl ?_
  refine r_iload_n X 1 dX11_within_1 rfl rfl ?_
  refine r_icmp_lt (tgt := 14) X dX11_within_2 (by decide) (fun hc1 => ?_) (fun hc1 => ?_)
  · have hf := ite_yes hc1 hf
    refine r_iconst X dX11_within_14 ?_
    exact r_zreturn X hf rfl dX11_within_15
  · have hf := ite_no hc1 hf
    refine r_iload_n X 0 dX11_within_5 rfl rfl ?_
    refine r_iload_n X 2 dX11_within_6 rfl rfl ?_
    refine r_icmp_gt (tgt := 14) X dX11_within_7 (by decide) (fun hc2 => ?_) (fun hc2 => ?_)
    · have hf := ite_yes hc2 hf
      refine r_iconst X dX11_within_14 ?_
      exact r_zreturn X hf rfl dX11_within_15
    · have hf := ite_no hc2 hf
      refine r_iconst X dX11_within_10 ?_
      refine r_goto (tgt := 15) X dX11_within_11 (by decide) ?_
      exact r_zreturn X hf rfl dX11_within_15
set_option maxRecDepth 100000 in
set_option maxHeartbeats 4000000 in
theorem c_H_isDay {l : Launch} {sg : St} {x0 : Int} {q : Int × St} (hf : f_H_isDay  sg x0 = some q) : MI l shX yX11_isDay cX11_isDay 1 (some .boolean) rm_H_isDay (fun ad => [mI x0]) sg q.2 q.1 := by
  refine mk_i (by decide) (fun _ => Nat.le_of_ble_eq_true rfl) (fun p e s m args below meth c D cy ad X => ?_)
  have X : CX p s m args meth c cX11_isDay RX11 1 (some .boolean) D shX cy ad (aw shX ad) := X
  refine r_perm (lv2 := [(0, mI x0)]) [0] rfl ?_
  refine r_iload_n X 0 dX11_isDay_0 rfl rfl ?_
  refine r_iconst X dX11_isDay_1 ?_
  refine r_sipush X dX11_isDay_2 (by decide) ?_
  obtain ⟨q1, hq1, hf⟩ := bd_some hf
  refine r_callSI X (As := [mI x0, mI 0, mI 999]) (st := []) (as := fun ad => [mI x0, mI 0, mI 999]) (c_H_within hq1) rfl yw_X11_within ys_X11_within ml_RX11_96 ⟨rfl, rfl⟩ ⟨Nat.le_of_ble_eq_true rfl, Nat.le_of_ble_eq_true rfl⟩ rfl rfl (Nat.le_of_ble_eq_true rfl) dX11_isDay_5 ?_
  obtain ⟨hz2, hf⟩ := gd_some hf
  exact r_zreturn X hf (zn_of hz2) dX11_isDay_8
set_option maxRecDepth 100000 in
set_option maxHeartbeats 4000000 in
theorem c_H_lowestBit {l : Launch} {sg : St} {x0 : Int} {q : Int × St} (hf : f_H_lowestBit  sg x0 = some q) : MI l shX yX11_lowestBit cX11_lowestBit 1 (some .int) rm_H_lowestBit (fun ad => [mI x0]) sg q.2 q.1 := by
  refine mk_i (by decide) (fun _ => Nat.le_of_ble_eq_true rfl) (fun p e s m args below meth c D cy ad X => ?_)
  have X : CX p s m args meth c cX11_lowestBit RX11 1 (some .int) D shX cy ad (aw shX ad) := X
  refine r_perm (lv2 := [(0, mI x0)]) [0] rfl ?_
  refine r_iload_n X 0 dX11_lowestBit_0 rfl rfl ?_
  refine r_if_ne (tgt := 8) X dX11_lowestBit_1 (by decide) (fun hc1 => ?_) (fun hc1 => ?_)
  · have hf := ite_yes hc1 hf
    refine r_iconst X dX11_lowestBit_4 ?_
    refine r_goto (tgt := 17) X dX11_lowestBit_5 (by decide) ?_
    exact r_ireturn X hf dX11_lowestBit_17
  · have hf := ite_no hc1 hf
    refine r_iload_n X 0 dX11_lowestBit_8 rfl rfl ?_
    refine r_iload_n X 0 dX11_lowestBit_9 rfl rfl ?_
    refine r_ineg X dX11_lowestBit_10 ?_
    refine r_iand X dX11_lowestBit_11 ?_
    refine r_iconst X dX11_lowestBit_12 ?_
    refine r_isub X dX11_lowestBit_13 ?_
    obtain ⟨q2, hq2, hf⟩ := bd_some hf
    refine r_callSI X (As := [mI ((andI x0 (-x0)) - 1)]) (st := []) (as := fun ad => [mI ((andI x0 (-x0)) - 1)]) (c_XJ_bitCount hq2) rfl yw_J6_bitCount_0f7a4 ys_J6_bitCount_0f7a4 ml_RX11_126 ⟨rfl, rfl⟩ ⟨Nat.le_of_ble_eq_true rfl, Nat.le_of_ble_eq_true rfl⟩ rfl rfl (Nat.le_of_ble_eq_true rfl) dX11_lowestBit_14 ?_
    exact r_ireturn X hf dX11_lowestBit_17
set_option maxRecDepth 100000 in
set_option maxHeartbeats 4000000 in
theorem c_Frac_become {l : Launch} {F : Nat} {cf : Nat} (hcf : FRc cf) {sg : St} {x1 x3 : Int} {q : St} (hf : f_Frac_become F cf sg x1 x3 = some q) : MV l shX yX1_become cX1_become 7 none rm_Frac_become (fun ad => [.ref (ad cf), mL x1, mL x3]) sg q := by
  refine mk_v (by decide) (fun _ => Nat.le_of_ble_eq_true rfl) (fun p e s m args below meth c D cy ad X => ?_)
  have X : CX p s m args meth c cX1_become RX1 7 none D shX cy ad (aw shX ad) := X
  refine r_perm (lv2 := [(0, .ref (ad cf)), (1, mL x1), (3, mL x3)]) [0, 1, 2] rfl ?_
  refine r_lload_n X 1 dX1_become_0 rfl rfl ?_
  obtain ⟨q1, hq1, hf⟩ := bd_some hf
  refine r_callSL X (As := [mL x1]) (st := []) (as := fun ad => [mL x1]) (c_XJ_abs hq1) rfl yw_J9_abs_067f4 ys_J9_abs_067f4 ml_RX1_16 ⟨rfl, rfl⟩ ⟨Nat.le_of_ble_eq_true rfl, Nat.le_of_ble_eq_true rfl⟩ rfl rfl (Nat.le_of_ble_eq_true rfl) dX1_become_1 ?_
  refine r_lload_n X 2 dX1_become_4 rfl rfl ?_
  obtain ⟨q2, hq2, hf⟩ := bd_some hf
  refine r_callSL X (As := [mL q1.1, mL x3]) (st := []) (as := fun ad => [mL q1.1, mL x3]) (c_Frac_commonDivisor hq2) rfl yw_X1_commonDivisor ys_X1_commonDivisor ml_RX1_22 ⟨rfl, rfl⟩ ⟨Nat.le_of_ble_eq_true rfl, Nat.le_of_ble_eq_true rfl⟩ rfl rfl (Nat.le_of_ble_eq_true rfl) dX1_become_5 ?_
  refine r_lstore (lv2 := [(5, mL q2.1), (0, .ref (ad cf)), (1, mL x1), (3, mL x3)]) X dX1_become_8 (by decide) rfl ?_
  refine r_lload_n X 3 dX1_become_10 rfl rfl ?_
  refine r_lconst (v := 0) X dX1_become_11 (by decide) ?_
  refine r_lc_le (tgt := 39) X dX1_become_12 dX1_become_13 (by decide) (fun hc3 => ?_) (fun hc3 => ?_)
  · have hf := ite_yes hc3 hf
    exact r_vreturn X hf dX1_become_39
  · have hf := ite_no hc3 hf
    refine r_lload X 0 dX1_become_16 rfl ?_
    refine r_lconst (v := 0) X dX1_become_18 (by decide) ?_
    refine r_lc_le (tgt := 39) X dX1_become_19 dX1_become_20 (by decide) (fun hc4 => ?_) (fun hc4 => ?_)
    · have hf := ite_yes hc4 hf
      exact r_vreturn X hf dX1_become_39
    · have hf := ite_no hc4 hf
      refine r_aload_n X 1 dX1_become_23 rfl rfl ?_
      refine r_lload_n X 2 dX1_become_24 rfl rfl ?_
      refine r_lload X 0 dX1_become_25 rfl ?_
      obtain ⟨hg5, hf⟩ := gd_some hf
      refine r_ldiv X hg5 dX1_become_27 ?_
      refine r_putL X fp_1_7 (fr_k0 hcf) rfl rfl dX1_become_28 ?_
      refine r_aload_n X 1 dX1_become_31 rfl rfl ?_
      refine r_lload_n X 3 dX1_become_32 rfl rfl ?_
      refine r_lload X 0 dX1_become_33 rfl ?_
      obtain ⟨hg7, hf⟩ := gd_some hf
      refine r_ldiv X hg7 dX1_become_35 ?_
      refine r_putL X fp_1_13 (fr_k1 hcf) rfl rfl dX1_become_36 ?_
      exact r_vreturn X hf dX1_become_39
set_option maxRecDepth 100000 in
set_option maxHeartbeats 4000000 in
theorem b_Halls_place_45_ok {p : Program} {l : Launch} {e : Env} {s : State} {m : MethodId} {args : Array Value} {below : List Frame} {meth : Method} {c : Code} {D : va_G} {cy : Nat → ClassId} {ad : Nat → Nat} (X : CX p s m args meth c cX3_place RX3 5 (some .int) D shX cy ad (aw shX ad)) {F : Nat} {q : Int × St} {sg : St} {x2 z0 : Int} (hf : b_Halls_place_45  F  sg x2 z0 = some q) : GG p l e rm_Halls_place s m args below meth c (QI D shX cy ad below args s q) D shX cy ad (aw shX ad) 5 45 [(0, .ref (ad 72)), (1, .ref (ad 1)), (2, mI x2)] [mI z0] sg := by
  refine r_istore (lv2 := [(4, mI z0), (0, .ref (ad 72)), (1, .ref (ad 1)), (2, mI x2)]) X dX3_place_45 (by decide) rfl ?_
  refine r_iload X 0 dX3_place_47 rfl ?_
  refine r_if_ne (tgt := 64) X dX3_place_49 (by decide) (fun hc1 => ?_) (fun hc1 => ?_)
  · have hf := ite_yes hc1 hf
    refine r_aload_n X 1 dX3_place_52 rfl rfl ?_
    refine r_getR X fl_3_11 k_X_72_2 dX3_place_53 ?_
    refine r_iload_n X 3 dX3_place_56 rfl rfl ?_
    refine r_dup2 X dX3_place_57 rfl rfl ?_
    obtain ⟨hg2, hf⟩ := gd_some hf
    refine r_iald X a_X_73 hg2 dX3_place_58 ?_
    refine r_iconst X dX3_place_59 ?_
    refine r_iadd X dX3_place_60 ?_
    obtain ⟨hg3, hf⟩ := gd_some hf
    refine r_iast X a_X_73 hg3 dX3_place_61 ?_
    refine r_iload_n X 3 dX3_place_62 rfl rfl ?_
    exact r_ireturn X hf dX3_place_63
  · have hf := ite_no hc1 hf
    refine r_aload_n X 1 dX3_place_64 rfl rfl ?_
    refine r_aload_n X 2 dX3_place_65 rfl rfl ?_
    refine r_iload_n X 3 dX3_place_66 rfl rfl ?_
    refine r_iconst X dX3_place_67 ?_
    obtain ⟨q5, hq5, hf⟩ := bd_some hf
    refine r_callVV X (As := [.ref (ad 1), mI x2, mI (-1)]) (st := []) (as := fun ad => [.ref (ad 72), .ref (ad 1), mI x2, mI (-1)]) (c_Halls_move hq5) rfl yw_X3_move yv_X3_move ml_RX3_57 o_X_72 rfl rfl ⟨rfl, rfl⟩ ⟨Nat.le_of_ble_eq_true rfl, Nat.le_of_ble_eq_true rfl⟩ rfl rfl (Nat.le_of_ble_eq_true rfl) dX3_place_68 ?_
    refine r_iload_n X 3 dX3_place_71 rfl rfl ?_
    refine r_iconst X dX3_place_72 ?_
    refine r_iadd X dX3_place_73 ?_
    refine r_bipush X dX3_place_74 (by decide) ?_
    refine r_icmp_ge (tgt := 88) X dX3_place_76 (by decide) (fun hc6 => ?_) (fun hc6 => ?_)
    · have hf := ite_yes hc6 hf
      refine r_iload_n X 3 dX3_place_88 rfl rfl ?_
      refine r_iconst X dX3_place_89 ?_
      refine r_iadd X dX3_place_90 ?_
      exact r_ireturn X hf dX3_place_91
    · have hf := ite_no hc6 hf
      refine r_aload_n X 1 dX3_place_79 rfl rfl ?_
      refine r_getR X fl_3_11 k_X_72_2 dX3_place_80 ?_
      refine r_iload_n X 3 dX3_place_83 rfl rfl ?_
      refine r_iconst X dX3_place_84 ?_
      refine r_iadd X dX3_place_85 ?_
      refine r_iconst X dX3_place_86 ?_
      obtain ⟨hg7, hf⟩ := gd_some hf
      refine r_iast X a_X_73 hg7 dX3_place_87 ?_
      refine r_iload_n X 3 dX3_place_88 rfl rfl ?_
      refine r_iconst X dX3_place_89 ?_
      refine r_iadd X dX3_place_90 ?_
      exact r_ireturn X hf dX3_place_91
set_option maxRecDepth 100000 in
set_option maxHeartbeats 4000000 in
theorem c_Halls_place {l : Launch} {sg : St} {x2 x3 : Int} {q : Int × St} (hf : f_Halls_place  sg x2 x3 = some q) : MI l shX yX3_place cX3_place 5 (some .int) rm_Halls_place (fun ad => [.ref (ad 72), .ref (ad 1), mI x2, mI x3]) sg q.2 q.1 := by
  refine mk_i (by decide) (fun _ => Nat.le_of_ble_eq_true rfl) (fun p e s m args below meth c D cy ad X => ?_)
  have X : CX p s m args meth c cX3_place RX3 5 (some .int) D shX cy ad (aw shX ad) := X
  refine r_perm (lv2 := [(0, .ref (ad 72)), (1, .ref (ad 1)), (2, mI x2), (3, mI x3)]) [0, 1, 2, 3] rfl ?_
  refine r_aload_n X 0 dX3_place_0 rfl rfl ?_
  refine r_getR X fl_3_24 k_X_72_6 dX3_place_1 ?_
  refine r_iload_n X 3 dX3_place_4 rfl rfl ?_
  obtain ⟨hg1, hf⟩ := gd_some hf
  refine r_iald X a_X_77 hg1 dX3_place_5 ?_
  refine r_iconst X dX3_place_6 ?_
  refine r_icmp_lt (tgt := 44) X dX3_place_7 (by decide) (fun hc2 => ?_) (fun hc2 => ?_)
  · have hf := ite_yes hc2 hf
    refine r_iconst X dX3_place_44 ?_
    refine r_perm (lv2 := [(0, .ref (ad 72)), (1, .ref (ad 1)), (2, mI x2)]) [0, 1, 2] rfl ?_
    exact b_Halls_place_45_ok X  hf
  · have hf := ite_no hc2 hf
    refine r_aload_n X 0 dX3_place_10 rfl rfl ?_
    refine r_getR X fl_3_27 k_X_72_7 dX3_place_11 ?_
    refine r_iload_n X 3 dX3_place_14 rfl rfl ?_
    obtain ⟨hg3, hf⟩ := gd_some hf
    refine r_iald X a_X_78 hg3 dX3_place_15 ?_
    refine r_aload_n X 1 dX3_place_16 rfl rfl ?_
    refine r_getR X fl_3_65 k_X_1_4 dX3_place_17 ?_
    refine r_iload_n X 2 dX3_place_20 rfl rfl ?_
    obtain ⟨hg4, hf⟩ := gd_some hf
    refine r_iald X a_X_5 hg4 dX3_place_21 ?_
    refine r_icmp_lt (tgt := 44) X dX3_place_22 (by decide) (fun hc5 => ?_) (fun hc5 => ?_)
    · have hf := ite_yes hc5 hf
      refine r_iconst X dX3_place_44 ?_
      refine r_perm (lv2 := [(0, .ref (ad 72)), (1, .ref (ad 1)), (2, mI x2)]) [0, 1, 2] rfl ?_
      exact b_Halls_place_45_ok X  hf
    · have hf := ite_no hc5 hf
      refine r_aload_n X 0 dX3_place_25 rfl rfl ?_
      refine r_getR X fl_3_30 k_X_72_8 dX3_place_26 ?_
      refine r_iload_n X 3 dX3_place_29 rfl rfl ?_
      obtain ⟨hg6, hf⟩ := gd_some hf
      refine r_iald X a_X_79 hg6 dX3_place_30 ?_
      refine r_aload_n X 1 dX3_place_31 rfl rfl ?_
      refine r_getR X fl_3_66 k_X_1_5 dX3_place_32 ?_
      refine r_iload_n X 2 dX3_place_35 rfl rfl ?_
      obtain ⟨hg7, hf⟩ := gd_some hf
      refine r_iald X a_X_6 hg7 dX3_place_36 ?_
      refine r_icmp_lt (tgt := 44) X dX3_place_37 (by decide) (fun hc8 => ?_) (fun hc8 => ?_)
      · have hf := ite_yes hc8 hf
        refine r_iconst X dX3_place_44 ?_
        refine r_perm (lv2 := [(0, .ref (ad 72)), (1, .ref (ad 1)), (2, mI x2)]) [0, 1, 2] rfl ?_
        exact b_Halls_place_45_ok X  hf
      · have hf := ite_no hc8 hf
        refine r_iconst X dX3_place_40 ?_
        refine r_goto (tgt := 45) X dX3_place_41 (by decide) ?_
        refine r_perm (lv2 := [(0, .ref (ad 72)), (1, .ref (ad 1)), (2, mI x2)]) [0, 1, 2] rfl ?_
        exact b_Halls_place_45_ok X  hf
set_option maxRecDepth 100000 in
set_option maxHeartbeats 4000000 in
theorem b_Known_takeLatest_82_ok {p : Program} {l : Launch} {e : Env} {s : State} {m : MethodId} {args : Array Value} {below : List Frame} {meth : Method} {c : Code} {D : va_G} {cy : Nat → ClassId} {ad : Nat → Nat} (X : CX p s m args meth c cX5_takeLatest RX5 6 none D shX cy ad (aw shX ad)) {F : Nat} {kc : St → Int → Int → Option (St)} {k130 : St → Option (St)} {q : St} (hkc : ∀ sg x2 x3, kc sg x2 x3 = some q → GG p l e rm_Known_takeLatest s m args below meth c (QV D shX cy ad below args s q) D shX cy ad (aw shX ad) 6 24 [(0, .ref (ad 25)), (1, .ref (ad 19)), (2, mI x2), (3, mI x3)] [] sg) (hk130 : ∀ sg , k130 sg  = some q → GG p l e rm_Known_takeLatest s m args below meth c (QV D shX cy ad below args s q) D shX cy ad (aw shX ad) 6 130 [] [] sg) {sg : St} {x2 x3 x4 z0 : Int} (hf : b_Known_takeLatest_82  F kc k130 sg x2 x3 x4 z0 = some q) : GG p l e rm_Known_takeLatest s m args below meth c (QV D shX cy ad below args s q) D shX cy ad (aw shX ad) 6 82 [(0, .ref (ad 25)), (1, .ref (ad 19)), (2, mI x2), (3, mI x3), (4, mI x4)] [mI z0] sg := by
  refine r_istore (lv2 := [(5, mI z0), (0, .ref (ad 25)), (1, .ref (ad 19)), (2, mI x2), (3, mI x3), (4, mI x4)]) X dX5_takeLatest_82 (by decide) rfl ?_
  refine r_iload X 0 dX5_takeLatest_84 rfl ?_
  refine r_if_eq (tgt := 124) X dX5_takeLatest_86 (by decide) (fun hc1 => ?_) (fun hc1 => ?_)
  · have hf := ite_yes hc1 hf
    refine r_iinc (lv2 := [(3, mI (x3 + 1)), (5, mI z0), (0, .ref (ad 25)), (1, .ref (ad 19)), (2, mI x2), (4, mI x4)]) X 4 dX5_takeLatest_124 rfl (by decide) rfl ?_
    refine r_goto (tgt := 24) X dX5_takeLatest_127 (by decide) ?_
    refine r_perm (lv2 := [(0, .ref (ad 25)), (1, .ref (ad 19)), (2, mI x2), (3, mI (x3 + 1))]) [2, 3, 4, 0] rfl ?_
    exact hkc _ _ _ hf
  · have hf := ite_no hc1 hf
    refine r_aload_n X 2 dX5_takeLatest_89 rfl rfl ?_
    refine r_iload_n X 4 dX5_takeLatest_90 rfl rfl ?_
    refine r_iload_n X 3 dX5_takeLatest_91 rfl rfl ?_
    obtain ⟨q2, hq2, hf⟩ := bd_some hf
    refine r_callVI X (As := [mI x3, mI x2]) (st := []) (as := fun ad => [.ref (ad 19), mI x3, mI x2]) (c_Marks_standsOn hq2) rfl yw_X6_standsOn yv_X6_standsOn ml_RX5_49 o_X_19 rfl rfl ⟨rfl, rfl⟩ ⟨Nat.le_of_ble_eq_true rfl, Nat.le_of_ble_eq_true rfl⟩ rfl rfl (Nat.le_of_ble_eq_true rfl) dX5_takeLatest_92 ?_
    refine r_if_eq (tgt := 124) X dX5_takeLatest_95 (by decide) (fun hc3 => ?_) (fun hc3 => ?_)
    · have hf := ite_yes hc3 hf
      refine r_iinc (lv2 := [(3, mI (x3 + 1)), (5, mI z0), (0, .ref (ad 25)), (1, .ref (ad 19)), (2, mI x2), (4, mI x4)]) X 4 dX5_takeLatest_124 rfl (by decide) rfl ?_
      refine r_goto (tgt := 24) X dX5_takeLatest_127 (by decide) ?_
      refine r_perm (lv2 := [(0, .ref (ad 25)), (1, .ref (ad 19)), (2, mI x2), (3, mI (x3 + 1))]) [2, 3, 4, 0] rfl ?_
      exact hkc _ _ _ hf
    · have hf := ite_no hc3 hf
      refine r_aload_n X 1 dX5_takeLatest_98 rfl rfl ?_
      refine r_getR X fl_5_15 k_X_25_1 dX5_takeLatest_99 ?_
      refine r_iload X 5 dX5_takeLatest_102 rfl ?_
      refine r_aload_n X 2 dX5_takeLatest_104 rfl rfl ?_
      refine r_getR X fl_5_53 k_X_19_3 dX5_takeLatest_105 ?_
      refine r_iload_n X 4 dX5_takeLatest_108 rfl rfl ?_
      obtain ⟨hg4, hf⟩ := gd_some hf
      refine r_iald X a_X_22 hg4 dX5_takeLatest_109 ?_
      obtain ⟨hg5, hf⟩ := gd_some hf
      refine r_iast X a_X_27 hg5 dX5_takeLatest_110 ?_
      refine r_aload_n X 1 dX5_takeLatest_111 rfl rfl ?_
      refine r_getR X fl_5_18 k_X_25_2 dX5_takeLatest_112 ?_
      refine r_iload X 5 dX5_takeLatest_115 rfl ?_
      refine r_aload_n X 2 dX5_takeLatest_117 rfl rfl ?_
      refine r_getR X fl_5_48 k_X_19_4 dX5_takeLatest_118 ?_
      refine r_iload_n X 4 dX5_takeLatest_121 rfl rfl ?_
      obtain ⟨hg7, hf⟩ := gd_some hf
      refine r_iald X a_X_23 hg7 dX5_takeLatest_122 ?_
      obtain ⟨hg8, hf⟩ := gd_some hf
      refine r_iast X a_X_28 hg8 dX5_takeLatest_123 ?_
      refine r_iinc (lv2 := [(3, mI (x3 + 1)), (5, mI z0), (0, .ref (ad 25)), (1, .ref (ad 19)), (2, mI x2), (4, mI x4)]) X 4 dX5_takeLatest_124 rfl (by decide) rfl ?_
      refine r_goto (tgt := 24) X dX5_takeLatest_127 (by decide) ?_
      refine r_perm (lv2 := [(0, .ref (ad 25)), (1, .ref (ad 19)), (2, mI x2), (3, mI (x3 + 1))]) [2, 3, 4, 0] rfl ?_
      exact hkc _ _ _ hf
set_option maxRecDepth 100000 in
set_option maxHeartbeats 4000000 in
theorem b_Known_takeLatest_24_ok {p : Program} {l : Launch} {e : Env} {s : State} {m : MethodId} {args : Array Value} {below : List Frame} {meth : Method} {c : Code} {D : va_G} {cy : Nat → ClassId} {ad : Nat → Nat} (X : CX p s m args meth c cX5_takeLatest RX5 6 none D shX cy ad (aw shX ad)) {F : Nat} {kc : St → Int → Int → Option (St)} {k130 : St → Option (St)} {q : St} (hkc : ∀ sg x2 x3, kc sg x2 x3 = some q → GG p l e rm_Known_takeLatest s m args below meth c (QV D shX cy ad below args s q) D shX cy ad (aw shX ad) 6 24 [(0, .ref (ad 25)), (1, .ref (ad 19)), (2, mI x2), (3, mI x3)] [] sg) (hk130 : ∀ sg , k130 sg  = some q → GG p l e rm_Known_takeLatest s m args below meth c (QV D shX cy ad below args s q) D shX cy ad (aw shX ad) 6 130 [] [] sg) {sg : St} {x2 x3 : Int} (hf : b_Known_takeLatest_24  F kc k130 sg x2 x3 = some q) : GG p l e rm_Known_takeLatest s m args below meth c (QV D shX cy ad below args s q) D shX cy ad (aw shX ad) 6 24 [(0, .ref (ad 25)), (1, .ref (ad 19)), (2, mI x2), (3, mI x3)] [] sg := by
  refine r_iload_n X 3 dX5_takeLatest_24 rfl rfl ?_
  refine r_aload_n X 1 dX5_takeLatest_25 rfl rfl ?_
  refine r_getI X fl_5_36 k_X_19_0 dX5_takeLatest_26 ?_
  refine r_icmp_ge (tgt := 130) X dX5_takeLatest_29 (by decide) (fun hc1 => ?_) (fun hc1 => ?_)
  · have hf := ite_yes hc1 hf
    refine r_perm (lv2 := []) [] rfl ?_
    exact hk130 _ hf
  · have hf := ite_no hc1 hf
    refine r_aload_n X 1 dX5_takeLatest_32 rfl rfl ?_
    refine r_getR X fl_5_42 k_X_19_1 dX5_takeLatest_33 ?_
    refine r_iload_n X 3 dX5_takeLatest_36 rfl rfl ?_
    obtain ⟨hg2, hf⟩ := gd_some hf
    refine r_iald X a_X_20 hg2 dX5_takeLatest_37 ?_
    refine r_bipush X dX5_takeLatest_38 (by decide) ?_
    refine r_imul X dX5_takeLatest_40 ?_
    refine r_aload_n X 1 dX5_takeLatest_41 rfl rfl ?_
    refine r_getR X fl_5_45 k_X_19_2 dX5_takeLatest_42 ?_
    refine r_iload_n X 3 dX5_takeLatest_45 rfl rfl ?_
    obtain ⟨hg3, hf⟩ := gd_some hf
    refine r_iald X a_X_21 hg3 dX5_takeLatest_46 ?_
    refine r_iadd X dX5_takeLatest_47 ?_
    refine r_istore (lv2 := [(4, mI (((sg 20 (ix x3)) * 24) + (sg 21 (ix x3)))), (0, .ref (ad 25)), (1, .ref (ad 19)), (2, mI x2), (3, mI x3)]) X dX5_takeLatest_48 (by decide) rfl ?_
    refine r_aload_n X 1 dX5_takeLatest_50 rfl rfl ?_
    refine r_getR X fl_5_15 k_X_25_1 dX5_takeLatest_51 ?_
    refine r_iload X 0 dX5_takeLatest_54 rfl ?_
    obtain ⟨hg4, hf⟩ := gd_some hf
    refine r_iald X a_X_27 hg4 dX5_takeLatest_56 ?_
    refine r_iconst X dX5_takeLatest_57 ?_
    refine r_icmp_eq (tgt := 77) X dX5_takeLatest_58 (by decide) (fun hc5 => ?_) (fun hc5 => ?_)
    · have hf := ite_yes hc5 hf
      refine r_iconst X dX5_takeLatest_77 ?_
      refine r_goto (tgt := 82) X dX5_takeLatest_78 (by decide) ?_
      refine r_perm (lv2 := [(0, .ref (ad 25)), (1, .ref (ad 19)), (2, mI x2), (3, mI x3), (4, mI (((sg 20 (ix x3)) * 24) + (sg 21 (ix x3))))]) [1, 2, 3, 4, 0] rfl ?_
      exact b_Known_takeLatest_82_ok X hkc hk130 hf
    · have hf := ite_no hc5 hf
      refine r_aload_n X 1 dX5_takeLatest_61 rfl rfl ?_
      refine r_getR X fl_5_18 k_X_25_2 dX5_takeLatest_62 ?_
      refine r_iload X 0 dX5_takeLatest_65 rfl ?_
      obtain ⟨hg6, hf⟩ := gd_some hf
      refine r_iald X a_X_28 hg6 dX5_takeLatest_67 ?_
      refine r_aload_n X 2 dX5_takeLatest_68 rfl rfl ?_
      refine r_getR X fl_5_48 k_X_19_4 dX5_takeLatest_69 ?_
      refine r_iload_n X 4 dX5_takeLatest_72 rfl rfl ?_
      obtain ⟨hg7, hf⟩ := gd_some hf
      refine r_iald X a_X_23 hg7 dX5_takeLatest_73 ?_
      refine r_icmp_gt (tgt := 81) X dX5_takeLatest_74 (by decide) (fun hc8 => ?_) (fun hc8 => ?_)
      · have hf := ite_yes hc8 hf
        refine r_iconst X dX5_takeLatest_81 ?_
        refine r_perm (lv2 := [(0, .ref (ad 25)), (1, .ref (ad 19)), (2, mI x2), (3, mI x3), (4, mI (((sg 20 (ix x3)) * 24) + (sg 21 (ix x3))))]) [1, 2, 3, 4, 0] rfl ?_
        exact b_Known_takeLatest_82_ok X hkc hk130 hf
      · have hf := ite_no hc8 hf
        refine r_iconst X dX5_takeLatest_77 ?_
        refine r_goto (tgt := 82) X dX5_takeLatest_78 (by decide) ?_
        refine r_perm (lv2 := [(0, .ref (ad 25)), (1, .ref (ad 19)), (2, mI x2), (3, mI x3), (4, mI (((sg 20 (ix x3)) * 24) + (sg 21 (ix x3))))]) [1, 2, 3, 4, 0] rfl ?_
        exact b_Known_takeLatest_82_ok X hkc hk130 hf
set_option maxRecDepth 100000 in
set_option maxHeartbeats 4000000 in
theorem l_Known_takeLatest_24_ok {p : Program} {l : Launch} {e : Env} {s : State} {m : MethodId} {args : Array Value} {below : List Frame} {meth : Method} {c : Code} {D : va_G} {cy : Nat → ClassId} {ad : Nat → Nat} (X : CX p s m args meth c cX5_takeLatest RX5 6 none D shX cy ad (aw shX ad)) {F : Nat} {k130 : St → Option (St)} {q : St} (hk130 : ∀ sg , k130 sg  = some q → GG p l e rm_Known_takeLatest s m args below meth c (QV D shX cy ad below args s q) D shX cy ad (aw shX ad) 6 130 [] [] sg) : ∀ (n : Nat) (sg : St) (x2 x3 : Int), l_Known_takeLatest_24  F k130 n sg x2 x3 = some q → GG p l e rm_Known_takeLatest s m args below meth c (QV D shX cy ad below args s q) D shX cy ad (aw shX ad) 6 24 [(0, .ref (ad 25)), (1, .ref (ad 19)), (2, mI x2), (3, mI x3)] [] sg := by
  intro n
  induction n with
  | zero => intro sg x2 x3 h; cases h
  | succ n ih => exact fun sg x2 x3 h => b_Known_takeLatest_24_ok X ih hk130 h
set_option maxRecDepth 100000 in
set_option maxHeartbeats 4000000 in
theorem b_Known_takeLatest_2_ok {p : Program} {l : Launch} {e : Env} {s : State} {m : MethodId} {args : Array Value} {below : List Frame} {meth : Method} {c : Code} {D : va_G} {cy : Nat → ClassId} {ad : Nat → Nat} (X : CX p s m args meth c cX5_takeLatest RX5 6 none D shX cy ad (aw shX ad)) {F : Nat} {kc : St → Int → Int → Option (St)} {k22 : St → Int → Option (St)} {q : St} (hkc : ∀ sg x2 x3, kc sg x2 x3 = some q → GG p l e rm_Known_takeLatest s m args below meth c (QV D shX cy ad below args s q) D shX cy ad (aw shX ad) 6 2 [(0, .ref (ad 25)), (1, .ref (ad 19)), (2, mI x2), (3, mI x3)] [] sg) (hk22 : ∀ sg x2, k22 sg x2 = some q → GG p l e rm_Known_takeLatest s m args below meth c (QV D shX cy ad below args s q) D shX cy ad (aw shX ad) 6 22 [(0, .ref (ad 25)), (1, .ref (ad 19)), (2, mI x2)] [] sg) {sg : St} {x2 x3 : Int} (hf : b_Known_takeLatest_2  F kc k22 sg x2 x3 = some q) : GG p l e rm_Known_takeLatest s m args below meth c (QV D shX cy ad below args s q) D shX cy ad (aw shX ad) 6 2 [(0, .ref (ad 25)), (1, .ref (ad 19)), (2, mI x2), (3, mI x3)] [] sg := by
  refine r_iload_n X 3 dX5_takeLatest_2 rfl rfl ?_
  refine r_sipush X dX5_takeLatest_3 (by decide) ?_
  refine r_icmp_ge (tgt := 22) X dX5_takeLatest_6 (by decide) (fun hc1 => ?_) (fun hc1 => ?_)
  · have hf := ite_yes hc1 hf
    refine r_perm (lv2 := [(0, .ref (ad 25)), (1, .ref (ad 19)), (2, mI x2)]) [0, 1, 2] rfl ?_
    exact hk22 _ _ hf
  · have hf := ite_no hc1 hf
    refine r_aload_n X 0 dX5_takeLatest_9 rfl rfl ?_
    refine r_getR X fl_5_15 k_X_25_1 dX5_takeLatest_10 ?_
    refine r_iload_n X 3 dX5_takeLatest_13 rfl rfl ?_
    refine r_iconst X dX5_takeLatest_14 ?_
    obtain ⟨hg2, hf⟩ := gd_some hf
    refine r_iast X a_X_27 hg2 dX5_takeLatest_15 ?_
    refine r_iinc (lv2 := [(3, mI (x3 + 1)), (0, .ref (ad 25)), (1, .ref (ad 19)), (2, mI x2)]) X 3 dX5_takeLatest_16 rfl (by decide) rfl ?_
    refine r_goto (tgt := 2) X dX5_takeLatest_19 (by decide) ?_
    refine r_perm (lv2 := [(0, .ref (ad 25)), (1, .ref (ad 19)), (2, mI x2), (3, mI (x3 + 1))]) [1, 2, 3, 0] rfl ?_
    exact hkc _ _ _ hf
set_option maxRecDepth 100000 in
set_option maxHeartbeats 4000000 in
theorem l_Known_takeLatest_2_ok {p : Program} {l : Launch} {e : Env} {s : State} {m : MethodId} {args : Array Value} {below : List Frame} {meth : Method} {c : Code} {D : va_G} {cy : Nat → ClassId} {ad : Nat → Nat} (X : CX p s m args meth c cX5_takeLatest RX5 6 none D shX cy ad (aw shX ad)) {F : Nat} {k22 : St → Int → Option (St)} {q : St} (hk22 : ∀ sg x2, k22 sg x2 = some q → GG p l e rm_Known_takeLatest s m args below meth c (QV D shX cy ad below args s q) D shX cy ad (aw shX ad) 6 22 [(0, .ref (ad 25)), (1, .ref (ad 19)), (2, mI x2)] [] sg) : ∀ (n : Nat) (sg : St) (x2 x3 : Int), l_Known_takeLatest_2  F k22 n sg x2 x3 = some q → GG p l e rm_Known_takeLatest s m args below meth c (QV D shX cy ad below args s q) D shX cy ad (aw shX ad) 6 2 [(0, .ref (ad 25)), (1, .ref (ad 19)), (2, mI x2), (3, mI x3)] [] sg := by
  intro n
  induction n with
  | zero => intro sg x2 x3 h; cases h
  | succ n ih => exact fun sg x2 x3 h => b_Known_takeLatest_2_ok X ih hk22 h
set_option maxRecDepth 100000 in
set_option maxHeartbeats 4000000 in
theorem c_Known_takeLatest {l : Launch} {F : Nat} {sg : St} {x2 : Int} {q : St} (hf : f_Known_takeLatest F  sg x2 = some q) : MV l shX yX5_takeLatest cX5_takeLatest 6 none rm_Known_takeLatest (fun ad => [.ref (ad 25), .ref (ad 19), mI x2]) sg q := by
  refine mk_v (by decide) (fun _ => Nat.le_of_ble_eq_true rfl) (fun p e s m args below meth c D cy ad X => ?_)
  have X : CX p s m args meth c cX5_takeLatest RX5 6 none D shX cy ad (aw shX ad) := X
  refine r_perm (lv2 := [(0, .ref (ad 25)), (1, .ref (ad 19)), (2, mI x2)]) [0, 1, 2] rfl ?_
  refine r_iconst X dX5_takeLatest_0 ?_
  refine r_istore_n (lv2 := [(3, mI 0), (0, .ref (ad 25)), (1, .ref (ad 19)), (2, mI x2)]) X dX5_takeLatest_1 rfl (by decide) rfl ?_
  refine r_perm (lv2 := [(0, .ref (ad 25)), (1, .ref (ad 19)), (2, mI x2), (3, mI 0)]) [1, 2, 3, 0] rfl ?_
  refine l_Known_takeLatest_2_ok X ?_ F _ _ _ hf
  · intro s1 x2_2 hf
    refine r_iconst X dX5_takeLatest_22 ?_
    refine r_istore_n (lv2 := [(3, mI 0), (0, .ref (ad 25)), (1, .ref (ad 19)), (2, mI x2_2)]) X dX5_takeLatest_23 rfl (by decide) rfl ?_
    refine r_perm (lv2 := [(0, .ref (ad 25)), (1, .ref (ad 19)), (2, mI x2_2), (3, mI 0)]) [1, 2, 3, 0] rfl ?_
    refine l_Known_takeLatest_24_ok X ?_ F _ _ _ hf
    · intro s3  hf
      exact r_vreturn X hf dX5_takeLatest_130
set_option maxRecDepth 100000 in
set_option maxHeartbeats 4000000 in
theorem b_Known_formHeaps_76_ok {p : Program} {l : Launch} {e : Env} {s : State} {m : MethodId} {args : Array Value} {below : List Frame} {meth : Method} {c : Code} {D : va_G} {cy : Nat → ClassId} {ad : Nat → Nat} (X : CX p s m args meth c cX5_formHeaps RX5 4 none D shX cy ad (aw shX ad)) {F : Nat} {kc : St → Int → Int → Int → Option (St)} {k99 : St → Int → Option (St)} {q : St} (hkc : ∀ sg x1 x2 x3, kc sg x1 x2 x3 = some q → GG p l e rm_Known_formHeaps s m args below meth c (QV D shX cy ad below args s q) D shX cy ad (aw shX ad) 4 33 [(0, .ref (ad 25)), (1, mI x1), (2, mI x2), (3, mI x3)] [] sg) (hk99 : ∀ sg x1, k99 sg x1 = some q → GG p l e rm_Known_formHeaps s m args below meth c (QV D shX cy ad below args s q) D shX cy ad (aw shX ad) 4 99 [(0, .ref (ad 25)), (1, mI x1)] [] sg) {sg : St} {x1 x3 z0 : Int} (hf : b_Known_formHeaps_76  F kc k99 sg x1 x3 z0 = some q) : GG p l e rm_Known_formHeaps s m args below meth c (QV D shX cy ad below args s q) D shX cy ad (aw shX ad) 4 76 [(0, .ref (ad 25)), (1, mI x1), (3, mI x3)] [mI z0] sg := by
  refine r_istore_n (lv2 := [(2, mI z0), (0, .ref (ad 25)), (1, mI x1), (3, mI x3)]) X dX5_formHeaps_76 rfl (by decide) rfl ?_
  refine r_aload_n X 1 dX5_formHeaps_77 rfl rfl ?_
  refine r_aload_n X 1 dX5_formHeaps_78 rfl rfl ?_
  refine r_getR X fl_5_9 k_X_25_0 dX5_formHeaps_79 ?_
  refine r_iload_n X 0 dX5_formHeaps_82 rfl rfl ?_
  obtain ⟨hg1, hf⟩ := gd_some hf
  refine r_iald X a_X_26 hg1 dX5_formHeaps_83 ?_
  refine r_aload_n X 1 dX5_formHeaps_84 rfl rfl ?_
  refine r_getR X fl_5_9 k_X_25_0 dX5_formHeaps_85 ?_
  refine r_iload_n X 3 dX5_formHeaps_88 rfl rfl ?_
  obtain ⟨hg2, hf⟩ := gd_some hf
  refine r_iald X a_X_26 hg2 dX5_formHeaps_89 ?_
  obtain ⟨q3, hq3, hf⟩ := bd_some hf
  refine r_callVV X (As := [mI (sg 26 (ix z0)), mI (sg 26 (ix x3))]) (st := []) (as := fun ad => [.ref (ad 25), mI (sg 26 (ix z0)), mI (sg 26 (ix x3))]) (c_Known_joinHeaps hq3) rfl yw_X5_joinHeaps yv_X5_joinHeaps ml_RX5_54 o_X_25 rfl rfl ⟨rfl, rfl⟩ ⟨Nat.le_of_ble_eq_true rfl, Nat.le_of_ble_eq_true rfl⟩ rfl rfl (Nat.le_of_ble_eq_true rfl) dX5_formHeaps_90 ?_
  refine r_iinc (lv2 := [(3, mI (x3 + 1)), (2, mI z0), (0, .ref (ad 25)), (1, mI x1)]) X 3 dX5_formHeaps_93 rfl (by decide) rfl ?_
  refine r_goto (tgt := 33) X dX5_formHeaps_96 (by decide) ?_
  refine r_perm (lv2 := [(0, .ref (ad 25)), (1, mI x1), (2, mI z0), (3, mI (x3 + 1))]) [2, 3, 1, 0] rfl ?_
  exact hkc _ _ _ _ hf
set_option maxRecDepth 100000 in
set_option maxHeartbeats 4000000 in
theorem b_Known_formHeaps_66_ok {p : Program} {l : Launch} {e : Env} {s : State} {m : MethodId} {args : Array Value} {below : List Frame} {meth : Method} {c : Code} {D : va_G} {cy : Nat → ClassId} {ad : Nat → Nat} (X : CX p s m args meth c cX5_formHeaps RX5 4 none D shX cy ad (aw shX ad)) {F : Nat} {kc : St → Int → Int → Int → Option (St)} {k99 : St → Int → Option (St)} {q : St} (hkc : ∀ sg x1 x2 x3, kc sg x1 x2 x3 = some q → GG p l e rm_Known_formHeaps s m args below meth c (QV D shX cy ad below args s q) D shX cy ad (aw shX ad) 4 33 [(0, .ref (ad 25)), (1, mI x1), (2, mI x2), (3, mI x3)] [] sg) (hk99 : ∀ sg x1, k99 sg x1 = some q → GG p l e rm_Known_formHeaps s m args below meth c (QV D shX cy ad below args s q) D shX cy ad (aw shX ad) 4 99 [(0, .ref (ad 25)), (1, mI x1)] [] sg) {sg : St} {x1 x2 x3 : Int} (hf : b_Known_formHeaps_66  F kc k99 sg x1 x2 x3 = some q) : GG p l e rm_Known_formHeaps s m args below meth c (QV D shX cy ad below args s q) D shX cy ad (aw shX ad) 4 66 [(0, .ref (ad 25)), (1, mI x1), (2, mI x2), (3, mI x3)] [] sg := by
  refine r_iload_n X 2 dX5_formHeaps_66 rfl rfl ?_
  refine r_iconst X dX5_formHeaps_67 ?_
  refine r_icmp_ne (tgt := 75) X dX5_formHeaps_68 (by decide) (fun hc1 => ?_) (fun hc1 => ?_)
  · have hf := ite_yes hc1 hf
    refine r_iload_n X 3 dX5_formHeaps_71 rfl rfl ?_
    refine r_goto (tgt := 76) X dX5_formHeaps_72 (by decide) ?_
    refine r_perm (lv2 := [(0, .ref (ad 25)), (1, mI x1), (3, mI x3)]) [0, 1, 3] rfl ?_
    exact b_Known_formHeaps_76_ok X hkc hk99 hf
  · have hf := ite_no hc1 hf
    refine r_iload_n X 2 dX5_formHeaps_75 rfl rfl ?_
    refine r_perm (lv2 := [(0, .ref (ad 25)), (1, mI x1), (3, mI x3)]) [0, 1, 3] rfl ?_
    exact b_Known_formHeaps_76_ok X hkc hk99 hf
set_option maxRecDepth 100000 in
set_option maxHeartbeats 4000000 in
theorem b_Known_formHeaps_33_ok {p : Program} {l : Launch} {e : Env} {s : State} {m : MethodId} {args : Array Value} {below : List Frame} {meth : Method} {c : Code} {D : va_G} {cy : Nat → ClassId} {ad : Nat → Nat} (X : CX p s m args meth c cX5_formHeaps RX5 4 none D shX cy ad (aw shX ad)) {F : Nat} {kc : St → Int → Int → Int → Option (St)} {k99 : St → Int → Option (St)} {q : St} (hkc : ∀ sg x1 x2 x3, kc sg x1 x2 x3 = some q → GG p l e rm_Known_formHeaps s m args below meth c (QV D shX cy ad below args s q) D shX cy ad (aw shX ad) 4 33 [(0, .ref (ad 25)), (1, mI x1), (2, mI x2), (3, mI x3)] [] sg) (hk99 : ∀ sg x1, k99 sg x1 = some q → GG p l e rm_Known_formHeaps s m args below meth c (QV D shX cy ad below args s q) D shX cy ad (aw shX ad) 4 99 [(0, .ref (ad 25)), (1, mI x1)] [] sg) {sg : St} {x1 x2 x3 : Int} (hf : b_Known_formHeaps_33  F kc k99 sg x1 x2 x3 = some q) : GG p l e rm_Known_formHeaps s m args below meth c (QV D shX cy ad below args s q) D shX cy ad (aw shX ad) 4 33 [(0, .ref (ad 25)), (1, mI x1), (2, mI x2), (3, mI x3)] [] sg := by
  refine r_iload_n X 3 dX5_formHeaps_33 rfl rfl ?_
  refine r_bipush X dX5_formHeaps_34 (by decide) ?_
  refine r_icmp_ge (tgt := 99) X dX5_formHeaps_36 (by decide) (fun hc1 => ?_) (fun hc1 => ?_)
  · have hf := ite_yes hc1 hf
    refine r_perm (lv2 := [(0, .ref (ad 25)), (1, mI x1)]) [0, 1] rfl ?_
    exact hk99 _ _ hf
  · have hf := ite_no hc1 hf
    refine r_aload_n X 0 dX5_formHeaps_39 rfl rfl ?_
    refine r_iload_n X 3 dX5_formHeaps_40 rfl rfl ?_
    refine r_iload_n X 1 dX5_formHeaps_41 rfl rfl ?_
    obtain ⟨q2, hq2, hf⟩ := bd_some hf
    refine r_callVI X (As := [mI x3, mI x1]) (st := []) (as := fun ad => [.ref (ad 25), mI x3, mI x1]) (c_Known_pointsOf hq2) rfl yw_X5_pointsOf yv_X5_pointsOf ml_RX5_28 o_X_25 rfl rfl ⟨rfl, rfl⟩ ⟨Nat.le_of_ble_eq_true rfl, Nat.le_of_ble_eq_true rfl⟩ rfl rfl (Nat.le_of_ble_eq_true rfl) dX5_formHeaps_42 ?_
    refine r_iconst X dX5_formHeaps_45 ?_
    refine r_icmp_eq (tgt := 93) X dX5_formHeaps_46 (by decide) (fun hc3 => ?_) (fun hc3 => ?_)
    · have hf := ite_yes hc3 hf
      refine r_iinc (lv2 := [(3, mI (x3 + 1)), (0, .ref (ad 25)), (1, mI x1), (2, mI x2)]) X 3 dX5_formHeaps_93 rfl (by decide) rfl ?_
      refine r_goto (tgt := 33) X dX5_formHeaps_96 (by decide) ?_
      refine r_perm (lv2 := [(0, .ref (ad 25)), (1, mI x1), (2, mI x2), (3, mI (x3 + 1))]) [1, 2, 3, 0] rfl ?_
      exact hkc _ _ _ _ hf
    · have hf := ite_no hc3 hf
      refine r_aload_n X 0 dX5_formHeaps_49 rfl rfl ?_
      refine r_getR X fl_5_9 k_X_25_0 dX5_formHeaps_50 ?_
      refine r_iload_n X 3 dX5_formHeaps_53 rfl rfl ?_
      obtain ⟨hg4, hf⟩ := gd_some hf
      refine r_iald X a_X_26 hg4 dX5_formHeaps_54 ?_
      refine r_iconst X dX5_formHeaps_55 ?_
      refine r_icmp_ne (tgt := 66) X dX5_formHeaps_56 (by decide) (fun hc5 => ?_) (fun hc5 => ?_)
      · have hf := ite_yes hc5 hf
        refine r_aload_n X 0 dX5_formHeaps_59 rfl rfl ?_
        refine r_getR X fl_5_9 k_X_25_0 dX5_formHeaps_60 ?_
        refine r_iload_n X 3 dX5_formHeaps_63 rfl rfl ?_
        refine r_iload_n X 3 dX5_formHeaps_64 rfl rfl ?_
        obtain ⟨hg6, hf⟩ := gd_some hf
        refine r_iast X a_X_26 hg6 dX5_formHeaps_65 ?_
        exact b_Known_formHeaps_66_ok X hkc hk99 hf
      · have hf := ite_no hc5 hf
        exact b_Known_formHeaps_66_ok X hkc hk99 hf
set_option maxRecDepth 100000 in
set_option maxHeartbeats 4000000 in
theorem l_Known_formHeaps_33_ok {p : Program} {l : Launch} {e : Env} {s : State} {m : MethodId} {args : Array Value} {below : List Frame} {meth : Method} {c : Code} {D : va_G} {cy : Nat → ClassId} {ad : Nat → Nat} (X : CX p s m args meth c cX5_formHeaps RX5 4 none D shX cy ad (aw shX ad)) {F : Nat} {k99 : St → Int → Option (St)} {q : St} (hk99 : ∀ sg x1, k99 sg x1 = some q → GG p l e rm_Known_formHeaps s m args below meth c (QV D shX cy ad below args s q) D shX cy ad (aw shX ad) 4 99 [(0, .ref (ad 25)), (1, mI x1)] [] sg) : ∀ (n : Nat) (sg : St) (x1 x2 x3 : Int), l_Known_formHeaps_33  F k99 n sg x1 x2 x3 = some q → GG p l e rm_Known_formHeaps s m args below meth c (QV D shX cy ad below args s q) D shX cy ad (aw shX ad) 4 33 [(0, .ref (ad 25)), (1, mI x1), (2, mI x2), (3, mI x3)] [] sg := by
  intro n
  induction n with
  | zero => intro sg x1 x2 x3 h; cases h
  | succ n ih => exact fun sg x1 x2 x3 h => b_Known_formHeaps_33_ok X ih hk99 h
set_option maxRecDepth 100000 in
set_option maxHeartbeats 4000000 in
theorem b_Known_formHeaps_23_ok {p : Program} {l : Launch} {e : Env} {s : State} {m : MethodId} {args : Array Value} {below : List Frame} {meth : Method} {c : Code} {D : va_G} {cy : Nat → ClassId} {ad : Nat → Nat} (X : CX p s m args meth c cX5_formHeaps RX5 4 none D shX cy ad (aw shX ad)) {F : Nat} {kc : St → Int → Option (St)} {k105 : St → Option (St)} {q : St} (hkc : ∀ sg x1, kc sg x1 = some q → GG p l e rm_Known_formHeaps s m args below meth c (QV D shX cy ad below args s q) D shX cy ad (aw shX ad) 4 23 [(0, .ref (ad 25)), (1, mI x1)] [] sg) (hk105 : ∀ sg , k105 sg  = some q → GG p l e rm_Known_formHeaps s m args below meth c (QV D shX cy ad below args s q) D shX cy ad (aw shX ad) 4 105 [] [] sg) {sg : St} {x1 : Int} (hf : b_Known_formHeaps_23  F kc k105 sg x1 = some q) : GG p l e rm_Known_formHeaps s m args below meth c (QV D shX cy ad below args s q) D shX cy ad (aw shX ad) 4 23 [(0, .ref (ad 25)), (1, mI x1)] [] sg := by
  refine r_iload_n X 1 dX5_formHeaps_23 rfl rfl ?_
  refine r_bipush X dX5_formHeaps_24 (by decide) ?_
  refine r_icmp_ge (tgt := 105) X dX5_formHeaps_26 (by decide) (fun hc1 => ?_) (fun hc1 => ?_)
  · have hf := ite_yes hc1 hf
    refine r_perm (lv2 := []) [] rfl ?_
    exact hk105 _ hf
  · have hf := ite_no hc1 hf
    refine r_iconst X dX5_formHeaps_29 ?_
    refine r_istore_n (lv2 := [(2, mI (-1)), (0, .ref (ad 25)), (1, mI x1)]) X dX5_formHeaps_30 rfl (by decide) rfl ?_
    refine r_iconst X dX5_formHeaps_31 ?_
    refine r_istore_n (lv2 := [(3, mI 0), (2, mI (-1)), (0, .ref (ad 25)), (1, mI x1)]) X dX5_formHeaps_32 rfl (by decide) rfl ?_
    refine r_perm (lv2 := [(0, .ref (ad 25)), (1, mI x1), (2, mI (-1)), (3, mI 0)]) [2, 3, 1, 0] rfl ?_
    refine l_Known_formHeaps_33_ok X ?_ F _ _ _ _ hf
    · intro s2 x1_3 hf
      refine r_iinc (lv2 := [(1, mI (x1_3 + 1)), (0, .ref (ad 25))]) X 1 dX5_formHeaps_99 rfl (by decide) rfl ?_
      refine r_goto (tgt := 23) X dX5_formHeaps_102 (by decide) ?_
      refine r_perm (lv2 := [(0, .ref (ad 25)), (1, mI (x1_3 + 1))]) [1, 0] rfl ?_
      exact hkc _ _ hf
set_option maxRecDepth 100000 in
set_option maxHeartbeats 4000000 in
theorem l_Known_formHeaps_23_ok {p : Program} {l : Launch} {e : Env} {s : State} {m : MethodId} {args : Array Value} {below : List Frame} {meth : Method} {c : Code} {D : va_G} {cy : Nat → ClassId} {ad : Nat → Nat} (X : CX p s m args meth c cX5_formHeaps RX5 4 none D shX cy ad (aw shX ad)) {F : Nat} {k105 : St → Option (St)} {q : St} (hk105 : ∀ sg , k105 sg  = some q → GG p l e rm_Known_formHeaps s m args below meth c (QV D shX cy ad below args s q) D shX cy ad (aw shX ad) 4 105 [] [] sg) : ∀ (n : Nat) (sg : St) (x1 : Int), l_Known_formHeaps_23  F k105 n sg x1 = some q → GG p l e rm_Known_formHeaps s m args below meth c (QV D shX cy ad below args s q) D shX cy ad (aw shX ad) 4 23 [(0, .ref (ad 25)), (1, mI x1)] [] sg := by
  intro n
  induction n with
  | zero => intro sg x1 h; cases h
  | succ n ih => exact fun sg x1 h => b_Known_formHeaps_23_ok X ih hk105 h
set_option maxRecDepth 100000 in
set_option maxHeartbeats 4000000 in
theorem b_Known_formHeaps_2_ok {p : Program} {l : Launch} {e : Env} {s : State} {m : MethodId} {args : Array Value} {below : List Frame} {meth : Method} {c : Code} {D : va_G} {cy : Nat → ClassId} {ad : Nat → Nat} (X : CX p s m args meth c cX5_formHeaps RX5 4 none D shX cy ad (aw shX ad)) {F : Nat} {kc : St → Int → Option (St)} {k21 : St → Option (St)} {q : St} (hkc : ∀ sg x1, kc sg x1 = some q → GG p l e rm_Known_formHeaps s m args below meth c (QV D shX cy ad below args s q) D shX cy ad (aw shX ad) 4 2 [(0, .ref (ad 25)), (1, mI x1)] [] sg) (hk21 : ∀ sg , k21 sg  = some q → GG p l e rm_Known_formHeaps s m args below meth c (QV D shX cy ad below args s q) D shX cy ad (aw shX ad) 4 21 [(0, .ref (ad 25))] [] sg) {sg : St} {x1 : Int} (hf : b_Known_formHeaps_2  F kc k21 sg x1 = some q) : GG p l e rm_Known_formHeaps s m args below meth c (QV D shX cy ad below args s q) D shX cy ad (aw shX ad) 4 2 [(0, .ref (ad 25)), (1, mI x1)] [] sg := by
  refine r_iload_n X 1 dX5_formHeaps_2 rfl rfl ?_
  refine r_bipush X dX5_formHeaps_3 (by decide) ?_
  refine r_icmp_ge (tgt := 21) X dX5_formHeaps_5 (by decide) (fun hc1 => ?_) (fun hc1 => ?_)
  · have hf := ite_yes hc1 hf
    refine r_perm (lv2 := [(0, .ref (ad 25))]) [0] rfl ?_
    exact hk21 _ hf
  · have hf := ite_no hc1 hf
    refine r_aload_n X 0 dX5_formHeaps_8 rfl rfl ?_
    refine r_getR X fl_5_9 k_X_25_0 dX5_formHeaps_9 ?_
    refine r_iload_n X 1 dX5_formHeaps_12 rfl rfl ?_
    refine r_iconst X dX5_formHeaps_13 ?_
    obtain ⟨hg2, hf⟩ := gd_some hf
    refine r_iast X a_X_26 hg2 dX5_formHeaps_14 ?_
    refine r_iinc (lv2 := [(1, mI (x1 + 1)), (0, .ref (ad 25))]) X 1 dX5_formHeaps_15 rfl (by decide) rfl ?_
    refine r_goto (tgt := 2) X dX5_formHeaps_18 (by decide) ?_
    refine r_perm (lv2 := [(0, .ref (ad 25)), (1, mI (x1 + 1))]) [1, 0] rfl ?_
    exact hkc _ _ hf
set_option maxRecDepth 100000 in
set_option maxHeartbeats 4000000 in
theorem l_Known_formHeaps_2_ok {p : Program} {l : Launch} {e : Env} {s : State} {m : MethodId} {args : Array Value} {below : List Frame} {meth : Method} {c : Code} {D : va_G} {cy : Nat → ClassId} {ad : Nat → Nat} (X : CX p s m args meth c cX5_formHeaps RX5 4 none D shX cy ad (aw shX ad)) {F : Nat} {k21 : St → Option (St)} {q : St} (hk21 : ∀ sg , k21 sg  = some q → GG p l e rm_Known_formHeaps s m args below meth c (QV D shX cy ad below args s q) D shX cy ad (aw shX ad) 4 21 [(0, .ref (ad 25))] [] sg) : ∀ (n : Nat) (sg : St) (x1 : Int), l_Known_formHeaps_2  F k21 n sg x1 = some q → GG p l e rm_Known_formHeaps s m args below meth c (QV D shX cy ad below args s q) D shX cy ad (aw shX ad) 4 2 [(0, .ref (ad 25)), (1, mI x1)] [] sg := by
  intro n
  induction n with
  | zero => intro sg x1 h; cases h
  | succ n ih => exact fun sg x1 h => b_Known_formHeaps_2_ok X ih hk21 h
set_option maxRecDepth 100000 in
set_option maxHeartbeats 4000000 in
theorem c_Known_formHeaps {l : Launch} {F : Nat} {sg : St} {q : St} (hf : f_Known_formHeaps F  sg  = some q) : MV l shX yX5_formHeaps cX5_formHeaps 4 none rm_Known_formHeaps (fun ad => [.ref (ad 25)]) sg q := by
  refine mk_v (by decide) (fun _ => Nat.le_of_ble_eq_true rfl) (fun p e s m args below meth c D cy ad X => ?_)
  have X : CX p s m args meth c cX5_formHeaps RX5 4 none D shX cy ad (aw shX ad) := X
  refine r_perm (lv2 := [(0, .ref (ad 25))]) [0] rfl ?_
  refine r_iconst X dX5_formHeaps_0 ?_
  refine r_istore_n (lv2 := [(1, mI 0), (0, .ref (ad 25))]) X dX5_formHeaps_1 rfl (by decide) rfl ?_
  refine r_perm (lv2 := [(0, .ref (ad 25)), (1, mI 0)]) [1, 0] rfl ?_
  refine l_Known_formHeaps_2_ok X ?_ F _ _ hf
  · intro s1  hf
    refine r_iconst X dX5_formHeaps_21 ?_
    refine r_istore_n (lv2 := [(1, mI 0), (0, .ref (ad 25))]) X dX5_formHeaps_22 rfl (by decide) rfl ?_
    refine r_perm (lv2 := [(0, .ref (ad 25)), (1, mI 0)]) [1, 0] rfl ?_
    refine l_Known_formHeaps_23_ok X ?_ F _ _ hf
    · intro s2  hf
      exact r_vreturn X hf dX5_formHeaps_105
set_option maxRecDepth 100000 in
set_option maxHeartbeats 4000000 in
theorem b_Plan_startAtLacking_17_ok {p : Program} {l : Launch} {e : Env} {s : State} {m : MethodId} {args : Array Value} {below : List Frame} {meth : Method} {c : Code} {D : va_G} {cy : Nat → ClassId} {ad : Nat → Nat} (X : CX p s m args meth c cX7_startAtLacking RX7 2 none D shX cy ad (aw shX ad)) {F : Nat} {kc : St → Int → Option (St)} {k45 : St → Option (St)} {q : St} (hkc : ∀ sg x1, kc sg x1 = some q → GG p l e rm_Plan_startAtLacking s m args below meth c (QV D shX cy ad below args s q) D shX cy ad (aw shX ad) 2 17 [(0, .ref (ad 11)), (1, mI x1)] [] sg) (hk45 : ∀ sg , k45 sg  = some q → GG p l e rm_Plan_startAtLacking s m args below meth c (QV D shX cy ad below args s q) D shX cy ad (aw shX ad) 2 45 [] [] sg) {sg : St} {x1 : Int} (hf : b_Plan_startAtLacking_17  F kc k45 sg x1 = some q) : GG p l e rm_Plan_startAtLacking s m args below meth c (QV D shX cy ad below args s q) D shX cy ad (aw shX ad) 2 17 [(0, .ref (ad 11)), (1, mI x1)] [] sg := by
  refine r_iload_n X 1 dX7_startAtLacking_17 rfl rfl ?_
  refine r_aload_n X 0 dX7_startAtLacking_18 rfl rfl ?_
  refine r_getI X fl_7_33 k_X_11_1 dX7_startAtLacking_19 ?_
  refine r_icmp_ge (tgt := 45) X dX7_startAtLacking_22 (by decide) (fun hc1 => ?_) (fun hc1 => ?_)
  · have hf := ite_yes hc1 hf
    refine r_perm (lv2 := []) [] rfl ?_
    exact hk45 _ hf
  · have hf := ite_no hc1 hf
    refine r_aload_n X 0 dX7_startAtLacking_25 rfl rfl ?_
    refine r_iload_n X 1 dX7_startAtLacking_26 rfl rfl ?_
    obtain ⟨q2, hq2, hf⟩ := bd_some hf
    refine r_callVI X (As := [mI x1]) (st := []) (as := fun ad => [.ref (ad 11), mI x1]) (c_Plan_lacks hq2) rfl yw_X7_lacks yv_X7_lacks ml_RX7_90 o_X_11 rfl rfl ⟨rfl, rfl⟩ ⟨Nat.le_of_ble_eq_true rfl, Nat.le_of_ble_eq_true rfl⟩ rfl rfl (Nat.le_of_ble_eq_true rfl) dX7_startAtLacking_27 ?_
    refine r_if_eq (tgt := 39) X dX7_startAtLacking_30 (by decide) (fun hc3 => ?_) (fun hc3 => ?_)
    · have hf := ite_yes hc3 hf
      refine r_iinc (lv2 := [(1, mI (x1 + 1)), (0, .ref (ad 11))]) X 1 dX7_startAtLacking_39 rfl (by decide) rfl ?_
      refine r_goto (tgt := 17) X dX7_startAtLacking_42 (by decide) ?_
      refine r_perm (lv2 := [(0, .ref (ad 11)), (1, mI (x1 + 1))]) [1, 0] rfl ?_
      exact hkc _ _ hf
    · have hf := ite_no hc3 hf
      refine r_aload_n X 0 dX7_startAtLacking_33 rfl rfl ?_
      refine r_iload_n X 1 dX7_startAtLacking_34 rfl rfl ?_
      refine r_iconst X dX7_startAtLacking_35 ?_
      obtain ⟨q4, hq4, hf⟩ := bd_some hf
      refine r_callVV X (As := [mI x1, mI (-1)]) (st := []) (as := fun ad => [.ref (ad 11), mI x1, mI (-1)]) (c_Plan_reach hq4) rfl yw_X7_reach yv_X7_reach ml_RX7_125 o_X_11 rfl rfl ⟨rfl, rfl⟩ ⟨Nat.le_of_ble_eq_true rfl, Nat.le_of_ble_eq_true rfl⟩ rfl rfl (Nat.le_of_ble_eq_true rfl) dX7_startAtLacking_36 ?_
      refine r_iinc (lv2 := [(1, mI (x1 + 1)), (0, .ref (ad 11))]) X 1 dX7_startAtLacking_39 rfl (by decide) rfl ?_
      refine r_goto (tgt := 17) X dX7_startAtLacking_42 (by decide) ?_
      refine r_perm (lv2 := [(0, .ref (ad 11)), (1, mI (x1 + 1))]) [1, 0] rfl ?_
      exact hkc _ _ hf
set_option maxRecDepth 100000 in
set_option maxHeartbeats 4000000 in
theorem l_Plan_startAtLacking_17_ok {p : Program} {l : Launch} {e : Env} {s : State} {m : MethodId} {args : Array Value} {below : List Frame} {meth : Method} {c : Code} {D : va_G} {cy : Nat → ClassId} {ad : Nat → Nat} (X : CX p s m args meth c cX7_startAtLacking RX7 2 none D shX cy ad (aw shX ad)) {F : Nat} {k45 : St → Option (St)} {q : St} (hk45 : ∀ sg , k45 sg  = some q → GG p l e rm_Plan_startAtLacking s m args below meth c (QV D shX cy ad below args s q) D shX cy ad (aw shX ad) 2 45 [] [] sg) : ∀ (n : Nat) (sg : St) (x1 : Int), l_Plan_startAtLacking_17  F k45 n sg x1 = some q → GG p l e rm_Plan_startAtLacking s m args below meth c (QV D shX cy ad below args s q) D shX cy ad (aw shX ad) 2 17 [(0, .ref (ad 11)), (1, mI x1)] [] sg := by
  intro n
  induction n with
  | zero => intro sg x1 h; cases h
  | succ n ih => exact fun sg x1 h => b_Plan_startAtLacking_17_ok X ih hk45 h
set_option maxRecDepth 100000 in
set_option maxHeartbeats 4000000 in
theorem c_Plan_startAtLacking {l : Launch} {F : Nat} {sg : St} {q : St} (hf : f_Plan_startAtLacking F  sg  = some q) : MV l shX yX7_startAtLacking cX7_startAtLacking 2 none rm_Plan_startAtLacking (fun ad => [.ref (ad 11)]) sg q := by
  refine mk_v (by decide) (fun _ => Nat.le_of_ble_eq_true rfl) (fun p e s m args below meth c D cy ad X => ?_)
  have X : CX p s m args meth c cX7_startAtLacking RX7 2 none D shX cy ad (aw shX ad) := X
  refine r_perm (lv2 := [(0, .ref (ad 11))]) [0] rfl ?_
  refine r_aload_n X 0 dX7_startAtLacking_0 rfl rfl ?_
  refine r_iconst X dX7_startAtLacking_1 ?_
  refine r_putI X fp_7_78 k_X_11_11 rfl rfl dX7_startAtLacking_2 ?_
  refine r_aload_n X 0 dX7_startAtLacking_5 rfl rfl ?_
  refine r_iconst X dX7_startAtLacking_6 ?_
  refine r_putI X fp_7_118 k_X_11_12 rfl rfl dX7_startAtLacking_7 ?_
  refine r_aload_n X 0 dX7_startAtLacking_10 rfl rfl ?_
  refine r_iconst X dX7_startAtLacking_11 ?_
  refine r_putI X fp_7_115 k_X_11_13 rfl rfl dX7_startAtLacking_12 ?_
  refine r_iconst X dX7_startAtLacking_15 ?_
  refine r_istore_n (lv2 := [(1, mI 0), (0, .ref (ad 11))]) X dX7_startAtLacking_16 rfl (by decide) rfl ?_
  refine r_perm (lv2 := [(0, .ref (ad 11)), (1, mI 0)]) [1, 0] rfl ?_
  refine l_Plan_startAtLacking_17_ok X ?_ F _ _ hf
  · intro s4  hf
    exact r_vreturn X hf dX7_startAtLacking_45
set_option maxRecDepth 100000 in
set_option maxHeartbeats 4000000 in
theorem b_Plan_reachShown_22_ok {p : Program} {l : Launch} {e : Env} {s : State} {m : MethodId} {args : Array Value} {below : List Frame} {meth : Method} {c : Code} {D : va_G} {cy : Nat → ClassId} {ad : Nat → Nat} (X : CX p s m args meth c cX7_reachShown RX7 4 none D shX cy ad (aw shX ad)) {F : Nat} {kc : St → Int → Int → Int → Option (St)} {k55 : St → Option (St)} {q : St} (hkc : ∀ sg x1 x2 x3, kc sg x1 x2 x3 = some q → GG p l e rm_Plan_reachShown s m args below meth c (QV D shX cy ad below args s q) D shX cy ad (aw shX ad) 4 22 [(0, .ref (ad 11)), (1, mI x1), (2, mI x2), (3, mI x3)] [] sg) (hk55 : ∀ sg , k55 sg  = some q → GG p l e rm_Plan_reachShown s m args below meth c (QV D shX cy ad below args s q) D shX cy ad (aw shX ad) 4 55 [] [] sg) {sg : St} {x1 x2 x3 : Int} (hf : b_Plan_reachShown_22  F kc k55 sg x1 x2 x3 = some q) : GG p l e rm_Plan_reachShown s m args below meth c (QV D shX cy ad below args s q) D shX cy ad (aw shX ad) 4 22 [(0, .ref (ad 11)), (1, mI x1), (2, mI x2), (3, mI x3)] [] sg := by
  refine r_iload_n X 3 dX7_reachShown_22 rfl rfl ?_
  refine r_aload_n X 0 dX7_reachShown_23 rfl rfl ?_
  refine r_getI X fl_7_33 k_X_11_1 dX7_reachShown_24 ?_
  refine r_icmp_ge (tgt := 55) X dX7_reachShown_27 (by decide) (fun hc1 => ?_) (fun hc1 => ?_)
  · have hf := ite_yes hc1 hf
    refine r_perm (lv2 := []) [] rfl ?_
    exact hk55 _ hf
  · have hf := ite_no hc1 hf
    refine r_iload_n X 2 dX7_reachShown_30 rfl rfl ?_
    refine r_if_eq (tgt := 55) X dX7_reachShown_31 (by decide) (fun hc2 => ?_) (fun hc2 => ?_)
    · have hf := ite_yes hc2 hf
      refine r_perm (lv2 := []) [] rfl ?_
      exact hk55 _ hf
    · have hf := ite_no hc2 hf
      refine r_iload_n X 2 dX7_reachShown_34 rfl rfl ?_
      refine r_iload_n X 3 dX7_reachShown_35 rfl rfl ?_
      refine r_ishr X dX7_reachShown_36 ?_
      refine r_iconst X dX7_reachShown_37 ?_
      refine r_iand X dX7_reachShown_38 ?_
      refine r_iconst X dX7_reachShown_39 ?_
      refine r_icmp_ne (tgt := 49) X dX7_reachShown_40 (by decide) (fun hc3 => ?_) (fun hc3 => ?_)
      · have hf := ite_yes hc3 hf
        refine r_aload_n X 0 dX7_reachShown_43 rfl rfl ?_
        refine r_iload_n X 3 dX7_reachShown_44 rfl rfl ?_
        refine r_iload_n X 1 dX7_reachShown_45 rfl rfl ?_
        obtain ⟨q4, hq4, hf⟩ := bd_some hf
        refine r_callVV X (As := [mI x3, mI x1]) (st := []) (as := fun ad => [.ref (ad 11), mI x3, mI x1]) (c_Plan_reach hq4) rfl yw_X7_reach yv_X7_reach ml_RX7_125 o_X_11 rfl rfl ⟨rfl, rfl⟩ ⟨Nat.le_of_ble_eq_true rfl, Nat.le_of_ble_eq_true rfl⟩ rfl rfl (Nat.le_of_ble_eq_true rfl) dX7_reachShown_46 ?_
        refine r_iinc (lv2 := [(3, mI (x3 + 1)), (0, .ref (ad 11)), (1, mI x1), (2, mI x2)]) X 3 dX7_reachShown_49 rfl (by decide) rfl ?_
        refine r_goto (tgt := 22) X dX7_reachShown_52 (by decide) ?_
        refine r_perm (lv2 := [(0, .ref (ad 11)), (1, mI x1), (2, mI x2), (3, mI (x3 + 1))]) [1, 2, 3, 0] rfl ?_
        exact hkc _ _ _ _ hf
      · have hf := ite_no hc3 hf
        refine r_iinc (lv2 := [(3, mI (x3 + 1)), (0, .ref (ad 11)), (1, mI x1), (2, mI x2)]) X 3 dX7_reachShown_49 rfl (by decide) rfl ?_
        refine r_goto (tgt := 22) X dX7_reachShown_52 (by decide) ?_
        refine r_perm (lv2 := [(0, .ref (ad 11)), (1, mI x1), (2, mI x2), (3, mI (x3 + 1))]) [1, 2, 3, 0] rfl ?_
        exact hkc _ _ _ _ hf
set_option maxRecDepth 100000 in
set_option maxHeartbeats 4000000 in
theorem l_Plan_reachShown_22_ok {p : Program} {l : Launch} {e : Env} {s : State} {m : MethodId} {args : Array Value} {below : List Frame} {meth : Method} {c : Code} {D : va_G} {cy : Nat → ClassId} {ad : Nat → Nat} (X : CX p s m args meth c cX7_reachShown RX7 4 none D shX cy ad (aw shX ad)) {F : Nat} {k55 : St → Option (St)} {q : St} (hk55 : ∀ sg , k55 sg  = some q → GG p l e rm_Plan_reachShown s m args below meth c (QV D shX cy ad below args s q) D shX cy ad (aw shX ad) 4 55 [] [] sg) : ∀ (n : Nat) (sg : St) (x1 x2 x3 : Int), l_Plan_reachShown_22  F k55 n sg x1 x2 x3 = some q → GG p l e rm_Plan_reachShown s m args below meth c (QV D shX cy ad below args s q) D shX cy ad (aw shX ad) 4 22 [(0, .ref (ad 11)), (1, mI x1), (2, mI x2), (3, mI x3)] [] sg := by
  intro n
  induction n with
  | zero => intro sg x1 x2 x3 h; cases h
  | succ n ih => exact fun sg x1 x2 x3 h => b_Plan_reachShown_22_ok X ih hk55 h
set_option maxRecDepth 100000 in
set_option maxHeartbeats 4000000 in
theorem c_Plan_reachShown {l : Launch} {F : Nat} {sg : St} {x1 : Int} {q : St} (hf : f_Plan_reachShown F  sg x1 = some q) : MV l shX yX7_reachShown cX7_reachShown 4 none rm_Plan_reachShown (fun ad => [.ref (ad 11), mI x1]) sg q := by
  refine mk_v (by decide) (fun _ => Nat.le_of_ble_eq_true rfl) (fun p e s m args below meth c D cy ad X => ?_)
  have X : CX p s m args meth c cX7_reachShown RX7 4 none D shX cy ad (aw shX ad) := X
  refine r_perm (lv2 := [(0, .ref (ad 11)), (1, mI x1)]) [0, 1] rfl ?_
  refine r_aload_n X 0 dX7_reachShown_0 rfl rfl ?_
  refine r_getR X fl_7_21 k_X_11_8 dX7_reachShown_1 ?_
  refine r_iload_n X 1 dX7_reachShown_4 rfl rfl ?_
  obtain ⟨hg1, hf⟩ := gd_some hf
  refine r_iald X a_X_15 hg1 dX7_reachShown_5 ?_
  refine r_aload_n X 0 dX7_reachShown_6 rfl rfl ?_
  refine r_iload_n X 1 dX7_reachShown_7 rfl rfl ?_
  obtain ⟨q2, hq2, hf⟩ := bd_some hf
  refine r_callVI X (As := [mI x1]) (st := [mI (sg 15 (ix x1))]) (as := fun ad => [.ref (ad 11), mI x1]) (c_Plan_openBoards hq2) rfl yw_X7_openBoards yv_X7_openBoards ml_RX7_103 o_X_11 rfl rfl ⟨rfl, rfl⟩ ⟨Nat.le_of_ble_eq_true rfl, Nat.le_of_ble_eq_true rfl⟩ rfl rfl (Nat.le_of_ble_eq_true rfl) dX7_reachShown_8 ?_
  refine r_iand X dX7_reachShown_11 ?_
  refine r_aload_n X 0 dX7_reachShown_12 rfl rfl ?_
  refine r_getI X fl_7_78 k_X_11_11 dX7_reachShown_13 ?_
  refine r_iconst X dX7_reachShown_16 ?_
  refine r_ixor X dX7_reachShown_17 ?_
  refine r_iand X dX7_reachShown_18 ?_
  refine r_istore_n (lv2 := [(2, mI (andI (andI (sg 15 (ix x1)) q2.1) (xorI (q2.2 11 11) (-1)))), (0, .ref (ad 11)), (1, mI x1)]) X dX7_reachShown_19 rfl (by decide) rfl ?_
  refine r_iconst X dX7_reachShown_20 ?_
  refine r_istore_n (lv2 := [(3, mI 0), (2, mI (andI (andI (sg 15 (ix x1)) q2.1) (xorI (q2.2 11 11) (-1)))), (0, .ref (ad 11)), (1, mI x1)]) X dX7_reachShown_21 rfl (by decide) rfl ?_
  refine r_perm (lv2 := [(0, .ref (ad 11)), (1, mI x1), (2, mI (andI (andI (sg 15 (ix x1)) q2.1) (xorI (q2.2 11 11) (-1)))), (3, mI 0)]) [2, 3, 1, 0] rfl ?_
  refine l_Plan_reachShown_22_ok X ?_ F _ _ _ _ hf
  · intro s3  hf
    exact r_vreturn X hf dX7_reachShown_55
set_option maxRecDepth 100000 in
set_option maxHeartbeats 4000000 in
theorem c_Prize_isWished {l : Launch} {cp : Nat} (hcp : PRc cp) {sg : St} {x1 x3 x4 : Int} {q : Int × St} (hf : f_Prize_isWished cp sg x1 x3 x4 = some q) : MI l shX yX8_isWished cX8_isWished 5 (some .boolean) rm_Prize_isWished (fun ad => [.ref (ad cp), mI x1, .ref (ad 1), mI x3, mI x4]) sg q.2 q.1 := by
  refine mk_i (by decide) (fun _ => Nat.le_of_ble_eq_true rfl) (fun p e s m args below meth c D cy ad X => ?_)
  have X : CX p s m args meth c cX8_isWished RX8 5 (some .boolean) D shX cy ad (aw shX ad) := X
  refine r_perm (lv2 := [(0, .ref (ad cp)), (1, mI x1), (2, .ref (ad 1)), (3, mI x3), (4, mI x4)]) [0, 1, 2, 3, 4] rfl ?_
  refine r_aload_n X 0 dX8_isWished_0 rfl rfl ?_
  refine r_iconst X dX8_isWished_1 ?_
  refine r_iload_n X 1 dX8_isWished_2 rfl rfl ?_
  refine r_aload_n X 2 dX8_isWished_3 rfl rfl ?_
  refine r_getR X fl_8_28 k_X_1_1 dX8_isWished_4 ?_
  refine r_iload_n X 3 dX8_isWished_7 rfl rfl ?_
  obtain ⟨hg1, hf⟩ := gd_some hf
  refine r_iald X a_X_2 hg1 dX8_isWished_8 ?_
  obtain ⟨q2, hq2, hf⟩ := bd_some hf
  refine r_callVI X (As := [mI 0, mI x1, mI (sg 2 (ix x3))]) (st := []) (as := fun ad => [.ref (ad cp), mI 0, mI x1, mI (sg 2 (ix x3))]) (c_Prize_meets hcp hq2) rfl yw_X8_meets yv_X8_meets ml_RX8_33 (pr_o hcp) rfl rfl ⟨rfl, rfl⟩ ⟨Nat.le_of_ble_eq_true rfl, Nat.le_of_ble_eq_true rfl⟩ rfl rfl (Nat.le_of_ble_eq_true rfl) dX8_isWished_9 ?_
  refine r_if_eq (tgt := 66) X dX8_isWished_12 (by decide) (fun hc3 => ?_) (fun hc3 => ?_)
  · have hf := ite_yes hc3 hf
    refine r_iconst X dX8_isWished_66 ?_
    exact r_zreturn X hf rfl dX8_isWished_67
  · have hf := ite_no hc3 hf
    refine r_aload_n X 0 dX8_isWished_15 rfl rfl ?_
    refine r_iconst X dX8_isWished_16 ?_
    refine r_iload_n X 1 dX8_isWished_17 rfl rfl ?_
    refine r_aload_n X 2 dX8_isWished_18 rfl rfl ?_
    refine r_getR X fl_8_37 k_X_1_2 dX8_isWished_19 ?_
    refine r_iload_n X 3 dX8_isWished_22 rfl rfl ?_
    obtain ⟨hg4, hf⟩ := gd_some hf
    refine r_iald X a_X_3 hg4 dX8_isWished_23 ?_
    obtain ⟨q5, hq5, hf⟩ := bd_some hf
    refine r_callVI X (As := [mI 1, mI x1, mI (q2.2 3 (ix x3))]) (st := []) (as := fun ad => [.ref (ad cp), mI 1, mI x1, mI (q2.2 3 (ix x3))]) (c_Prize_meets hcp hq5) rfl yw_X8_meets yv_X8_meets ml_RX8_33 (pr_o hcp) rfl rfl ⟨rfl, rfl⟩ ⟨Nat.le_of_ble_eq_true rfl, Nat.le_of_ble_eq_true rfl⟩ rfl rfl (Nat.le_of_ble_eq_true rfl) dX8_isWished_24 ?_
    refine r_if_eq (tgt := 66) X dX8_isWished_27 (by decide) (fun hc6 => ?_) (fun hc6 => ?_)
    · have hf := ite_yes hc6 hf
      refine r_iconst X dX8_isWished_66 ?_
      exact r_zreturn X hf rfl dX8_isWished_67
    · have hf := ite_no hc6 hf
      refine r_aload_n X 0 dX8_isWished_30 rfl rfl ?_
      refine r_iconst X dX8_isWished_31 ?_
      refine r_iload_n X 1 dX8_isWished_32 rfl rfl ?_
      refine r_aload_n X 2 dX8_isWished_33 rfl rfl ?_
      refine r_getR X fl_8_40 k_X_1_3 dX8_isWished_34 ?_
      refine r_iload_n X 3 dX8_isWished_37 rfl rfl ?_
      obtain ⟨hg7, hf⟩ := gd_some hf
      refine r_iald X a_X_4 hg7 dX8_isWished_38 ?_
      obtain ⟨q8, hq8, hf⟩ := bd_some hf
      refine r_callVI X (As := [mI 2, mI x1, mI (q5.2 4 (ix x3))]) (st := []) (as := fun ad => [.ref (ad cp), mI 2, mI x1, mI (q5.2 4 (ix x3))]) (c_Prize_meets hcp hq8) rfl yw_X8_meets yv_X8_meets ml_RX8_33 (pr_o hcp) rfl rfl ⟨rfl, rfl⟩ ⟨Nat.le_of_ble_eq_true rfl, Nat.le_of_ble_eq_true rfl⟩ rfl rfl (Nat.le_of_ble_eq_true rfl) dX8_isWished_39 ?_
      refine r_if_eq (tgt := 66) X dX8_isWished_42 (by decide) (fun hc9 => ?_) (fun hc9 => ?_)
      · have hf := ite_yes hc9 hf
        refine r_iconst X dX8_isWished_66 ?_
        exact r_zreturn X hf rfl dX8_isWished_67
      · have hf := ite_no hc9 hf
        refine r_iload X 4 dX8_isWished_45 rfl ?_
        refine r_iconst X dX8_isWished_47 ?_
        refine r_aload_n X 0 dX8_isWished_48 rfl rfl ?_
        refine r_getR X fl_8_21 (pr_k3 hcp) dX8_isWished_49 ?_
        refine r_iconst X dX8_isWished_52 ?_
        obtain ⟨hg10, hf⟩ := gd_some hf
        refine r_aaldI X (pr_a3 hcp) hg10 dX8_isWished_53 ?_
        refine r_iload_n X 1 dX8_isWished_54 rfl rfl ?_
        obtain ⟨hg11, hf⟩ := gd_some hf
        refine r_iald X (pr_a4 hcp (inb_ix hg10)) hg11 dX8_isWished_55 ?_
        obtain ⟨q12, hq12, hf⟩ := bd_some hf
        refine r_callSI X (As := [mI 1, mI (q8.2 (cp + 4 + ix 3) (ix x1))]) (st := [mI x4]) (as := fun ad => [mI 1, mI (q8.2 (cp + 4 + ix 3) (ix x1))]) (c_XJ_max hq12) rfl yw_J9_max_7cf53 ys_J9_max_7cf53 ml_RX8_43 ⟨rfl, rfl⟩ ⟨Nat.le_of_ble_eq_true rfl, Nat.le_of_ble_eq_true rfl⟩ rfl rfl (Nat.le_of_ble_eq_true rfl) dX8_isWished_56 ?_
        refine r_icmp_lt (tgt := 66) X dX8_isWished_59 (by decide) (fun hc13 => ?_) (fun hc13 => ?_)
        · have hf := ite_yes hc13 hf
          refine r_iconst X dX8_isWished_66 ?_
          exact r_zreturn X hf rfl dX8_isWished_67
        · have hf := ite_no hc13 hf
          refine r_iconst X dX8_isWished_62 ?_
          refine r_goto (tgt := 67) X dX8_isWished_63 (by decide) ?_
          exact r_zreturn X hf rfl dX8_isWished_67
set_option maxRecDepth 100000 in
set_option maxHeartbeats 4000000 in
theorem b_Scale_rate_9_ok {p : Program} {l : Launch} {e : Env} {s : State} {m : MethodId} {args : Array Value} {below : List Frame} {meth : Method} {c : Code} {D : va_G} {cy : Nat → ClassId} {ad : Nat → Nat} (X : CX p s m args meth c cX9_rate RX9 10 none D shX cy ad (aw shX ad)) {co : Nat} (hco : FRc co) {F : Nat} {kc : St → Int → Int → Int → Int → Option (St)} {k73 : St → Int → Int → Option (St)} {q : St} (hkc : ∀ sg x2 x4 x6 x8, kc sg x2 x4 x6 x8 = some q → GG p l e rm_Scale_rate s m args below meth c (QV D shX cy ad below args s q) D shX cy ad (aw shX ad) 10 9 [(0, .ref (ad 29)), (1, .ref (ad 25)), (2, mI x2), (3, .ref (ad co)), (4, mL x4), (6, mL x6), (8, mI x8)] [] sg) (hk73 : ∀ sg x4 x6, k73 sg x4 x6 = some q → GG p l e rm_Scale_rate s m args below meth c (QV D shX cy ad below args s q) D shX cy ad (aw shX ad) 10 73 [(3, .ref (ad co)), (4, mL x4), (6, mL x6)] [] sg) {sg : St} {x2 x4 x6 x8 : Int} (hf : b_Scale_rate_9 co F kc k73 sg x2 x4 x6 x8 = some q) : GG p l e rm_Scale_rate s m args below meth c (QV D shX cy ad below args s q) D shX cy ad (aw shX ad) 10 9 [(0, .ref (ad 29)), (1, .ref (ad 25)), (2, mI x2), (3, .ref (ad co)), (4, mL x4), (6, mL x6), (8, mI x8)] [] sg := by
  refine r_iload X 6 dX9_rate_9 rfl ?_
  refine r_bipush X dX9_rate_11 (by decide) ?_
  refine r_icmp_ge (tgt := 73) X dX9_rate_13 (by decide) (fun hc1 => ?_) (fun hc1 => ?_)
  · have hf := ite_yes hc1 hf
    refine r_perm (lv2 := [(3, .ref (ad co)), (4, mL x4), (6, mL x6)]) [3, 4, 5] rfl ?_
    exact hk73 _ _ _ hf
  · have hf := ite_no hc1 hf
    refine r_aload_n X 1 dX9_rate_16 rfl rfl ?_
    refine r_iload X 6 dX9_rate_17 rfl ?_
    refine r_iload_n X 2 dX9_rate_19 rfl rfl ?_
    obtain ⟨q2, hq2, hf⟩ := bd_some hf
    refine r_callVI X (As := [mI x8, mI x2]) (st := []) (as := fun ad => [.ref (ad 25), mI x8, mI x2]) (c_Known_pointsOf hq2) rfl yw_X5_pointsOf yv_X5_pointsOf ml_RX9_60 o_X_25 rfl rfl ⟨rfl, rfl⟩ ⟨Nat.le_of_ble_eq_true rfl, Nat.le_of_ble_eq_true rfl⟩ rfl rfl (Nat.le_of_ble_eq_true rfl) dX9_rate_20 ?_
    refine r_istore (lv2 := [(9, mI q2.1), (0, .ref (ad 29)), (1, .ref (ad 25)), (2, mI x2), (3, .ref (ad co)), (4, mL x4), (6, mL x6), (8, mI x8)]) X dX9_rate_23 (by decide) rfl ?_
    refine r_iload X 0 dX9_rate_25 rfl ?_
    refine r_iconst X dX9_rate_27 ?_
    refine r_icmp_eq (tgt := 67) X dX9_rate_28 (by decide) (fun hc3 => ?_) (fun hc3 => ?_)
    · have hf := ite_yes hc3 hf
      refine r_iinc (lv2 := [(8, mI (x8 + 1)), (9, mI q2.1), (0, .ref (ad 29)), (1, .ref (ad 25)), (2, mI x2), (3, .ref (ad co)), (4, mL x4), (6, mL x6)]) X 7 dX9_rate_67 rfl (by decide) rfl ?_
      refine r_goto (tgt := 9) X dX9_rate_70 (by decide) ?_
      refine r_perm (lv2 := [(0, .ref (ad 29)), (1, .ref (ad 25)), (2, mI x2), (3, .ref (ad co)), (4, mL x4), (6, mL x6), (8, mI (x8 + 1))]) [2, 3, 4, 5, 6, 7, 0] rfl ?_
      exact hkc _ _ _ _ _ hf
    · have hf := ite_no hc3 hf
      refine r_lload X 5 dX9_rate_31 rfl ?_
      refine r_iload X 0 dX9_rate_33 rfl ?_
      refine r_i2l X dX9_rate_35 ?_
      refine r_aload_n X 1 dX9_rate_36 rfl rfl ?_
      refine r_getR X fl_9_15 k_X_29_1 dX9_rate_37 ?_
      refine r_iload X 7 dX9_rate_40 rfl ?_
      obtain ⟨hg4, hf⟩ := gd_some hf
      refine r_lald X a_X_31 hg4 dX9_rate_42 ?_
      refine r_lmul X dX9_rate_43 ?_
      refine r_aload_n X 1 dX9_rate_44 rfl rfl ?_
      refine r_getR X fl_9_9 k_X_29_0 dX9_rate_45 ?_
      refine r_iload X 7 dX9_rate_48 rfl ?_
      obtain ⟨hg5, hf⟩ := gd_some hf
      refine r_lald X a_X_30 hg5 dX9_rate_50 ?_
      refine r_lsub X dX9_rate_51 ?_
      refine r_ladd X dX9_rate_52 ?_
      refine r_lstore (lv2 := [(4, mL (x4 + (((w32 q2.1) * (q2.2 31 (ix x8))) - (q2.2 30 (ix x8))))), (9, mI q2.1), (0, .ref (ad 29)), (1, .ref (ad 25)), (2, mI x2), (3, .ref (ad co)), (6, mL x6), (8, mI x8)]) X dX9_rate_53 (by decide) rfl ?_
      refine r_lload X 6 dX9_rate_55 rfl ?_
      refine r_aload_n X 2 dX9_rate_57 rfl rfl ?_
      refine r_getR X fl_9_15 k_X_29_1 dX9_rate_58 ?_
      refine r_iload X 7 dX9_rate_61 rfl ?_
      obtain ⟨hg6, hf⟩ := gd_some hf
      refine r_lald X a_X_31 hg6 dX9_rate_63 ?_
      refine r_ladd X dX9_rate_64 ?_
      refine r_lstore (lv2 := [(6, mL (x6 + (q2.2 31 (ix x8)))), (4, mL (x4 + (((w32 q2.1) * (q2.2 31 (ix x8))) - (q2.2 30 (ix x8))))), (9, mI q2.1), (0, .ref (ad 29)), (1, .ref (ad 25)), (2, mI x2), (3, .ref (ad co)), (8, mI x8)]) X dX9_rate_65 (by decide) rfl ?_
      refine r_iinc (lv2 := [(8, mI (x8 + 1)), (6, mL (x6 + (q2.2 31 (ix x8)))), (4, mL (x4 + (((w32 q2.1) * (q2.2 31 (ix x8))) - (q2.2 30 (ix x8))))), (9, mI q2.1), (0, .ref (ad 29)), (1, .ref (ad 25)), (2, mI x2), (3, .ref (ad co))]) X 7 dX9_rate_67 rfl (by decide) rfl ?_
      refine r_goto (tgt := 9) X dX9_rate_70 (by decide) ?_
      refine r_perm (lv2 := [(0, .ref (ad 29)), (1, .ref (ad 25)), (2, mI x2), (3, .ref (ad co)), (4, mL (x4 + (((w32 q2.1) * (q2.2 31 (ix x8))) - (q2.2 30 (ix x8))))), (6, mL (x6 + (q2.2 31 (ix x8)))), (8, mI (x8 + 1))]) [4, 5, 6, 7, 2, 1, 0] rfl ?_
      exact hkc _ _ _ _ _ hf
set_option maxRecDepth 100000 in
set_option maxHeartbeats 4000000 in
theorem l_Scale_rate_9_ok {p : Program} {l : Launch} {e : Env} {s : State} {m : MethodId} {args : Array Value} {below : List Frame} {meth : Method} {c : Code} {D : va_G} {cy : Nat → ClassId} {ad : Nat → Nat} (X : CX p s m args meth c cX9_rate RX9 10 none D shX cy ad (aw shX ad)) {co : Nat} (hco : FRc co) {F : Nat} {k73 : St → Int → Int → Option (St)} {q : St} (hk73 : ∀ sg x4 x6, k73 sg x4 x6 = some q → GG p l e rm_Scale_rate s m args below meth c (QV D shX cy ad below args s q) D shX cy ad (aw shX ad) 10 73 [(3, .ref (ad co)), (4, mL x4), (6, mL x6)] [] sg) : ∀ (n : Nat) (sg : St) (x2 x4 x6 x8 : Int), l_Scale_rate_9 co F k73 n sg x2 x4 x6 x8 = some q → GG p l e rm_Scale_rate s m args below meth c (QV D shX cy ad below args s q) D shX cy ad (aw shX ad) 10 9 [(0, .ref (ad 29)), (1, .ref (ad 25)), (2, mI x2), (3, .ref (ad co)), (4, mL x4), (6, mL x6), (8, mI x8)] [] sg := by
  intro n
  induction n with
  | zero => intro sg x2 x4 x6 x8 h; cases h
  | succ n ih => exact fun sg x2 x4 x6 x8 h => b_Scale_rate_9_ok X hco ih hk73 h
set_option maxRecDepth 100000 in
set_option maxHeartbeats 4000000 in
theorem c_Scale_rate {l : Launch} {F : Nat} {co : Nat} (hco : FRc co) {sg : St} {x2 : Int} {q : St} (hf : f_Scale_rate F co sg x2 = some q) : MV l shX yX9_rate cX9_rate 10 none rm_Scale_rate (fun ad => [.ref (ad 29), .ref (ad 25), mI x2, .ref (ad co)]) sg q := by
  refine mk_v (by decide) (fun _ => Nat.le_of_ble_eq_true rfl) (fun p e s m args below meth c D cy ad X => ?_)
  have X : CX p s m args meth c cX9_rate RX9 10 none D shX cy ad (aw shX ad) := X
  refine r_perm (lv2 := [(0, .ref (ad 29)), (1, .ref (ad 25)), (2, mI x2), (3, .ref (ad co))]) [0, 1, 2, 3] rfl ?_
  refine r_lconst (v := 0) X dX9_rate_0 (by decide) ?_
  refine r_lstore (lv2 := [(4, mL 0), (0, .ref (ad 29)), (1, .ref (ad 25)), (2, mI x2), (3, .ref (ad co))]) X dX9_rate_1 (by decide) rfl ?_
  refine r_lconst (v := 0) X dX9_rate_3 (by decide) ?_
  refine r_lstore (lv2 := [(6, mL 0), (4, mL 0), (0, .ref (ad 29)), (1, .ref (ad 25)), (2, mI x2), (3, .ref (ad co))]) X dX9_rate_4 (by decide) rfl ?_
  refine r_iconst X dX9_rate_6 ?_
  refine r_istore (lv2 := [(8, mI 0), (6, mL 0), (4, mL 0), (0, .ref (ad 29)), (1, .ref (ad 25)), (2, mI x2), (3, .ref (ad co))]) X dX9_rate_7 (by decide) rfl ?_
  refine r_perm (lv2 := [(0, .ref (ad 29)), (1, .ref (ad 25)), (2, mI x2), (3, .ref (ad co)), (4, mL 0), (6, mL 0), (8, mI 0)]) [3, 4, 5, 6, 2, 1, 0] rfl ?_
  refine l_Scale_rate_9_ok X hco ?_ F _ _ _ _ _ hf
  · intro s1 x4_2 x6_3 hf
    refine r_aload_n X 0 dX9_rate_73 rfl rfl ?_
    refine r_lload X 1 dX9_rate_74 rfl ?_
    refine r_lload X 2 dX9_rate_76 rfl ?_
    obtain ⟨q4, hq4, hf⟩ := bd_some hf
    refine r_callVV X (As := [mL x4_2, mL x6_3]) (st := []) (as := fun ad => [.ref (ad co), mL x4_2, mL x6_3]) (c_Frac_become hco hq4) rfl yw_X1_become yv_X1_become ml_RX9_64 (fr_o hco) rfl rfl ⟨rfl, rfl⟩ ⟨Nat.le_of_ble_eq_true rfl, Nat.le_of_ble_eq_true rfl⟩ rfl rfl (Nat.le_of_ble_eq_true rfl) dX9_rate_78 ?_
    exact r_vreturn X hf dX9_rate_81
set_option maxRecDepth 100000 in
set_option maxHeartbeats 4000000 in
theorem b_Scale_addBoard_70_ok {p : Program} {l : Launch} {e : Env} {s : State} {m : MethodId} {args : Array Value} {below : List Frame} {meth : Method} {c : Code} {D : va_G} {cy : Nat → ClassId} {ad : Nat → Nat} (X : CX p s m args meth c cX9_addBoard RX9 8 none D shX cy ad (aw shX ad)) {F : Nat} {kc : St → Int → Int → Int → Int → Int → Option (St)} {k160 : St → Option (St)} {q : St} (hkc : ∀ sg x2 x3 x4 x5 x6, kc sg x2 x3 x4 x5 x6 = some q → GG p l e rm_Scale_addBoard s m args below meth c (QV D shX cy ad below args s q) D shX cy ad (aw shX ad) 8 70 [(0, .ref (ad 29)), (1, .ref (ad 25)), (2, mI x2), (3, mI x3), (4, mI x4), (5, mI x5), (6, mI x6)] [] sg) (hk160 : ∀ sg , k160 sg  = some q → GG p l e rm_Scale_addBoard s m args below meth c (QV D shX cy ad below args s q) D shX cy ad (aw shX ad) 8 160 [] [] sg) {sg : St} {x2 x3 x4 x5 x6 : Int} (hf : b_Scale_addBoard_70  F kc k160 sg x2 x3 x4 x5 x6 = some q) : GG p l e rm_Scale_addBoard s m args below meth c (QV D shX cy ad below args s q) D shX cy ad (aw shX ad) 8 70 [(0, .ref (ad 29)), (1, .ref (ad 25)), (2, mI x2), (3, mI x3), (4, mI x4), (5, mI x5), (6, mI x6)] [] sg := by
  refine r_iload X 6 dX9_addBoard_70 rfl ?_
  refine r_aload_n X 0 dX9_addBoard_72 rfl rfl ?_
  refine r_getI X fl_9_50 k_X_29_2 dX9_addBoard_73 ?_
  refine r_icmp_ge (tgt := 160) X dX9_addBoard_76 (by decide) (fun hc1 => ?_) (fun hc1 => ?_)
  · have hf := ite_yes hc1 hf
    refine r_perm (lv2 := []) [] rfl ?_
    exact hk160 _ hf
  · have hf := ite_no hc1 hf
    refine r_iload_n X 3 dX9_addBoard_79 rfl rfl ?_
    refine r_iconst X dX9_addBoard_80 ?_
    refine r_icmp_le (tgt := 160) X dX9_addBoard_81 (by decide) (fun hc2 => ?_) (fun hc2 => ?_)
    · have hf := ite_yes hc2 hf
      refine r_perm (lv2 := []) [] rfl ?_
      exact hk160 _ hf
    · have hf := ite_no hc2 hf
      refine r_aload_n X 1 dX9_addBoard_84 rfl rfl ?_
      refine r_aload_n X 0 dX9_addBoard_85 rfl rfl ?_
      refine r_getR X fl_9_18 k_X_29_3 dX9_addBoard_86 ?_
      refine r_iload X 6 dX9_addBoard_89 rfl ?_
      obtain ⟨hg3, hf⟩ := gd_some hf
      refine r_iald X a_X_32 hg3 dX9_addBoard_91 ?_
      refine r_iload_n X 2 dX9_addBoard_92 rfl rfl ?_
      obtain ⟨q4, hq4, hf⟩ := bd_some hf
      refine r_callVI X (As := [mI (sg 32 (ix x6)), mI x2]) (st := []) (as := fun ad => [.ref (ad 25), mI (sg 32 (ix x6)), mI x2]) (c_Known_pointsOf hq4) rfl yw_X5_pointsOf yv_X5_pointsOf ml_RX9_60 o_X_25 rfl rfl ⟨rfl, rfl⟩ ⟨Nat.le_of_ble_eq_true rfl, Nat.le_of_ble_eq_true rfl⟩ rfl rfl (Nat.le_of_ble_eq_true rfl) dX9_addBoard_93 ?_
      refine r_istore (lv2 := [(7, mI q4.1), (0, .ref (ad 29)), (1, .ref (ad 25)), (2, mI x2), (3, mI x3), (4, mI x4), (5, mI x5), (6, mI x6)]) X dX9_addBoard_96 (by decide) rfl ?_
      refine r_iload X 0 dX9_addBoard_98 rfl ?_
      refine r_iconst X dX9_addBoard_100 ?_
      refine r_icmp_eq (tgt := 154) X dX9_addBoard_101 (by decide) (fun hc5 => ?_) (fun hc5 => ?_)
      · have hf := ite_yes hc5 hf
        refine r_iinc (lv2 := [(6, mI (x6 + 1)), (7, mI q4.1), (0, .ref (ad 29)), (1, .ref (ad 25)), (2, mI x2), (3, mI x3), (4, mI x4), (5, mI x5)]) X 7 dX9_addBoard_154 rfl (by decide) rfl ?_
        refine r_goto (tgt := 70) X dX9_addBoard_157 (by decide) ?_
        refine r_perm (lv2 := [(0, .ref (ad 29)), (1, .ref (ad 25)), (2, mI x2), (3, mI x3), (4, mI x4), (5, mI x5), (6, mI (x6 + 1))]) [2, 3, 4, 5, 6, 7, 0] rfl ?_
        exact hkc _ _ _ _ _ _ hf
      · have hf := ite_no hc5 hf
        refine r_aload_n X 1 dX9_addBoard_104 rfl rfl ?_
        refine r_getR X fl_9_24 k_X_29_4 dX9_addBoard_105 ?_
        refine r_iload X 7 dX9_addBoard_108 rfl ?_
        obtain ⟨hg6, hf⟩ := gd_some hf
        refine r_aaldJ X sc_r hg6 dX9_addBoard_110 ?_
        refine r_iload X 7 dX9_addBoard_111 rfl ?_
        refine r_dup2 X dX9_addBoard_113 rfl rfl ?_
        obtain ⟨hg7, hf⟩ := gd_some hf
        refine r_lald X (sc_a (inb_ix hg6)) hg7 dX9_addBoard_114 ?_
        refine r_ldc2 X cst_RX9_73 dX9_addBoard_115 ?_
        refine r_ladd X dX9_addBoard_118 ?_
        obtain ⟨hg8, hf⟩ := gd_some hf
        refine r_last X (sc_a (inb_ix hg6)) hg8 dX9_addBoard_119 ?_
        refine r_aload_n X 1 dX9_addBoard_120 rfl rfl ?_
        refine r_getR X fl_9_24 k_X_29_4 dX9_addBoard_121 ?_
        refine r_iload X 7 dX9_addBoard_124 rfl ?_
        obtain ⟨hg10, hf⟩ := gd_some hf
        refine r_aaldJ X sc_r hg10 dX9_addBoard_126 ?_
        refine r_iconst X dX9_addBoard_127 ?_
        refine r_dup2 X dX9_addBoard_128 rfl rfl ?_
        obtain ⟨hg11, hf⟩ := gd_some hf
        refine r_lald X (sc_a (inb_ix hg10)) hg11 dX9_addBoard_129 ?_
        refine r_bipush X dX9_addBoard_130 (by decide) ?_
        refine r_iload X 0 dX9_addBoard_132 rfl ?_
        refine r_imul X dX9_addBoard_134 ?_
        refine r_iload X 6 dX9_addBoard_135 rfl ?_
        refine r_iload X 5 dX9_addBoard_137 rfl ?_
        refine r_imul X dX9_addBoard_139 ?_
        refine r_isub X dX9_addBoard_140 ?_
        refine r_i2l X dX9_addBoard_141 ?_
        refine r_ladd X dX9_addBoard_142 ?_
        obtain ⟨hg12, hf⟩ := gd_some hf
        refine r_last X (sc_a (inb_ix hg10)) hg12 dX9_addBoard_143 ?_
        refine r_aload_n X 1 dX9_addBoard_144 rfl rfl ?_
        refine r_aload_n X 2 dX9_addBoard_145 rfl rfl ?_
        refine r_iload_n X 3 dX9_addBoard_146 rfl rfl ?_
        refine r_iload X 7 dX9_addBoard_147 rfl ?_
        refine r_iload X 6 dX9_addBoard_149 rfl ?_
        obtain ⟨q14, hq14, hf⟩ := bd_some hf
        refine r_callVV X (As := [.ref (ad 25), mI x2, mI x6, mI x5]) (st := []) (as := fun ad => [.ref (ad 29), .ref (ad 25), mI x2, mI x6, mI x5]) (c_Scale_takeShares hq14) rfl yw_X9_takeShares yv_X9_takeShares ml_RX9_75 o_X_29 rfl rfl ⟨rfl, rfl⟩ ⟨Nat.le_of_ble_eq_true rfl, Nat.le_of_ble_eq_true rfl⟩ rfl rfl (Nat.le_of_ble_eq_true rfl) dX9_addBoard_151 ?_
        refine r_iinc (lv2 := [(6, mI (x6 + 1)), (7, mI q4.1), (0, .ref (ad 29)), (1, .ref (ad 25)), (2, mI x2), (3, mI x3), (4, mI x4), (5, mI x5)]) X 7 dX9_addBoard_154 rfl (by decide) rfl ?_
        refine r_goto (tgt := 70) X dX9_addBoard_157 (by decide) ?_
        refine r_perm (lv2 := [(0, .ref (ad 29)), (1, .ref (ad 25)), (2, mI x2), (3, mI x3), (4, mI x4), (5, mI x5), (6, mI (x6 + 1))]) [2, 3, 4, 5, 6, 7, 0] rfl ?_
        exact hkc _ _ _ _ _ _ hf
set_option maxRecDepth 100000 in
set_option maxHeartbeats 4000000 in
theorem l_Scale_addBoard_70_ok {p : Program} {l : Launch} {e : Env} {s : State} {m : MethodId} {args : Array Value} {below : List Frame} {meth : Method} {c : Code} {D : va_G} {cy : Nat → ClassId} {ad : Nat → Nat} (X : CX p s m args meth c cX9_addBoard RX9 8 none D shX cy ad (aw shX ad)) {F : Nat} {k160 : St → Option (St)} {q : St} (hk160 : ∀ sg , k160 sg  = some q → GG p l e rm_Scale_addBoard s m args below meth c (QV D shX cy ad below args s q) D shX cy ad (aw shX ad) 8 160 [] [] sg) : ∀ (n : Nat) (sg : St) (x2 x3 x4 x5 x6 : Int), l_Scale_addBoard_70  F k160 n sg x2 x3 x4 x5 x6 = some q → GG p l e rm_Scale_addBoard s m args below meth c (QV D shX cy ad below args s q) D shX cy ad (aw shX ad) 8 70 [(0, .ref (ad 29)), (1, .ref (ad 25)), (2, mI x2), (3, mI x3), (4, mI x4), (5, mI x5), (6, mI x6)] [] sg := by
  intro n
  induction n with
  | zero => intro sg x2 x3 x4 x5 x6 h; cases h
  | succ n ih => exact fun sg x2 x3 x4 x5 x6 h => b_Scale_addBoard_70_ok X ih hk160 h
set_option maxRecDepth 100000 in
set_option maxHeartbeats 4000000 in
theorem b_Scale_addBoard_8_ok {p : Program} {l : Launch} {e : Env} {s : State} {m : MethodId} {args : Array Value} {below : List Frame} {meth : Method} {c : Code} {D : va_G} {cy : Nat → ClassId} {ad : Nat → Nat} (X : CX p s m args meth c cX9_addBoard RX9 8 none D shX cy ad (aw shX ad)) {F : Nat} {kc : St → Int → Int → Int → Int → Option (St)} {k53 : St → Int → Int → Int → Option (St)} {q : St} (hkc : ∀ sg x2 x3 x4 x5, kc sg x2 x3 x4 x5 = some q → GG p l e rm_Scale_addBoard s m args below meth c (QV D shX cy ad below args s q) D shX cy ad (aw shX ad) 8 8 [(0, .ref (ad 29)), (1, .ref (ad 25)), (2, mI x2), (3, mI x3), (4, mI x4), (5, mI x5)] [] sg) (hk53 : ∀ sg x2 x3 x4, k53 sg x2 x3 x4 = some q → GG p l e rm_Scale_addBoard s m args below meth c (QV D shX cy ad below args s q) D shX cy ad (aw shX ad) 8 53 [(0, .ref (ad 29)), (1, .ref (ad 25)), (2, mI x2), (3, mI x3), (4, mI x4)] [] sg) {sg : St} {x2 x3 x4 x5 : Int} (hf : b_Scale_addBoard_8  F kc k53 sg x2 x3 x4 x5 = some q) : GG p l e rm_Scale_addBoard s m args below meth c (QV D shX cy ad below args s q) D shX cy ad (aw shX ad) 8 8 [(0, .ref (ad 29)), (1, .ref (ad 25)), (2, mI x2), (3, mI x3), (4, mI x4), (5, mI x5)] [] sg := by
  refine r_iload X 5 dX9_addBoard_8 rfl ?_
  refine r_aload_n X 0 dX9_addBoard_10 rfl rfl ?_
  refine r_getI X fl_9_50 k_X_29_2 dX9_addBoard_11 ?_
  refine r_icmp_ge (tgt := 53) X dX9_addBoard_14 (by decide) (fun hc1 => ?_) (fun hc1 => ?_)
  · have hf := ite_yes hc1 hf
    refine r_perm (lv2 := [(0, .ref (ad 29)), (1, .ref (ad 25)), (2, mI x2), (3, mI x3), (4, mI x4)]) [0, 1, 2, 3, 4] rfl ?_
    exact hk53 _ _ _ _ hf
  · have hf := ite_no hc1 hf
    refine r_aload_n X 1 dX9_addBoard_17 rfl rfl ?_
    refine r_aload_n X 0 dX9_addBoard_18 rfl rfl ?_
    refine r_getR X fl_9_18 k_X_29_3 dX9_addBoard_19 ?_
    refine r_iload X 5 dX9_addBoard_22 rfl ?_
    obtain ⟨hg2, hf⟩ := gd_some hf
    refine r_iald X a_X_32 hg2 dX9_addBoard_24 ?_
    refine r_iload_n X 2 dX9_addBoard_25 rfl rfl ?_
    obtain ⟨q3, hq3, hf⟩ := bd_some hf
    refine r_callVI X (As := [mI (sg 32 (ix x5)), mI x2]) (st := []) (as := fun ad => [.ref (ad 25), mI (sg 32 (ix x5)), mI x2]) (c_Known_pointsOf hq3) rfl yw_X5_pointsOf yv_X5_pointsOf ml_RX9_60 o_X_25 rfl rfl ⟨rfl, rfl⟩ ⟨Nat.le_of_ble_eq_true rfl, Nat.le_of_ble_eq_true rfl⟩ rfl rfl (Nat.le_of_ble_eq_true rfl) dX9_addBoard_26 ?_
    refine r_istore (lv2 := [(6, mI q3.1), (0, .ref (ad 29)), (1, .ref (ad 25)), (2, mI x2), (3, mI x3), (4, mI x4), (5, mI x5)]) X dX9_addBoard_29 (by decide) rfl ?_
    refine r_iload X 0 dX9_addBoard_31 rfl ?_
    refine r_iconst X dX9_addBoard_33 ?_
    refine r_icmp_eq (tgt := 47) X dX9_addBoard_34 (by decide) (fun hc4 => ?_) (fun hc4 => ?_)
    · have hf := ite_yes hc4 hf
      refine r_iinc (lv2 := [(5, mI (x5 + 1)), (6, mI q3.1), (0, .ref (ad 29)), (1, .ref (ad 25)), (2, mI x2), (3, mI x3), (4, mI x4)]) X 6 dX9_addBoard_47 rfl (by decide) rfl ?_
      refine r_goto (tgt := 8) X dX9_addBoard_50 (by decide) ?_
      refine r_perm (lv2 := [(0, .ref (ad 29)), (1, .ref (ad 25)), (2, mI x2), (3, mI x3), (4, mI x4), (5, mI (x5 + 1))]) [2, 3, 4, 5, 6, 0] rfl ?_
      exact hkc _ _ _ _ _ hf
    · have hf := ite_no hc4 hf
      refine r_iinc (lv2 := [(3, mI (x3 + 1)), (6, mI q3.1), (0, .ref (ad 29)), (1, .ref (ad 25)), (2, mI x2), (4, mI x4), (5, mI x5)]) X 4 dX9_addBoard_37 rfl (by decide) rfl ?_
      refine r_iload X 5 dX9_addBoard_40 rfl ?_
      refine r_iload X 1 dX9_addBoard_42 rfl ?_
      refine r_iadd X dX9_addBoard_44 ?_
      refine r_istore (lv2 := [(4, mI (x4 + q3.1)), (3, mI (x3 + 1)), (6, mI q3.1), (0, .ref (ad 29)), (1, .ref (ad 25)), (2, mI x2), (5, mI x5)]) X dX9_addBoard_45 (by decide) rfl ?_
      refine r_iinc (lv2 := [(5, mI (x5 + 1)), (4, mI (x4 + q3.1)), (3, mI (x3 + 1)), (6, mI q3.1), (0, .ref (ad 29)), (1, .ref (ad 25)), (2, mI x2)]) X 6 dX9_addBoard_47 rfl (by decide) rfl ?_
      refine r_goto (tgt := 8) X dX9_addBoard_50 (by decide) ?_
      refine r_perm (lv2 := [(0, .ref (ad 29)), (1, .ref (ad 25)), (2, mI x2), (3, mI (x3 + 1)), (4, mI (x4 + q3.1)), (5, mI (x5 + 1))]) [4, 5, 6, 2, 1, 0] rfl ?_
      exact hkc _ _ _ _ _ hf
set_option maxRecDepth 100000 in
set_option maxHeartbeats 4000000 in
theorem l_Scale_addBoard_8_ok {p : Program} {l : Launch} {e : Env} {s : State} {m : MethodId} {args : Array Value} {below : List Frame} {meth : Method} {c : Code} {D : va_G} {cy : Nat → ClassId} {ad : Nat → Nat} (X : CX p s m args meth c cX9_addBoard RX9 8 none D shX cy ad (aw shX ad)) {F : Nat} {k53 : St → Int → Int → Int → Option (St)} {q : St} (hk53 : ∀ sg x2 x3 x4, k53 sg x2 x3 x4 = some q → GG p l e rm_Scale_addBoard s m args below meth c (QV D shX cy ad below args s q) D shX cy ad (aw shX ad) 8 53 [(0, .ref (ad 29)), (1, .ref (ad 25)), (2, mI x2), (3, mI x3), (4, mI x4)] [] sg) : ∀ (n : Nat) (sg : St) (x2 x3 x4 x5 : Int), l_Scale_addBoard_8  F k53 n sg x2 x3 x4 x5 = some q → GG p l e rm_Scale_addBoard s m args below meth c (QV D shX cy ad below args s q) D shX cy ad (aw shX ad) 8 8 [(0, .ref (ad 29)), (1, .ref (ad 25)), (2, mI x2), (3, mI x3), (4, mI x4), (5, mI x5)] [] sg := by
  intro n
  induction n with
  | zero => intro sg x2 x3 x4 x5 h; cases h
  | succ n ih => exact fun sg x2 x3 x4 x5 h => b_Scale_addBoard_8_ok X ih hk53 h
set_option maxRecDepth 100000 in
set_option maxHeartbeats 4000000 in
theorem c_Scale_addBoard {l : Launch} {F : Nat} {sg : St} {x2 : Int} {q : St} (hf : f_Scale_addBoard F  sg x2 = some q) : MV l shX yX9_addBoard cX9_addBoard 8 none rm_Scale_addBoard (fun ad => [.ref (ad 29), .ref (ad 25), mI x2]) sg q := by
  refine mk_v (by decide) (fun _ => Nat.le_of_ble_eq_true rfl) (fun p e s m args below meth c D cy ad X => ?_)
  have X : CX p s m args meth c cX9_addBoard RX9 8 none D shX cy ad (aw shX ad) := X
  refine r_perm (lv2 := [(0, .ref (ad 29)), (1, .ref (ad 25)), (2, mI x2)]) [0, 1, 2] rfl ?_
  refine r_iconst X dX9_addBoard_0 ?_
  refine r_istore_n (lv2 := [(3, mI 0), (0, .ref (ad 29)), (1, .ref (ad 25)), (2, mI x2)]) X dX9_addBoard_1 rfl (by decide) rfl ?_
  refine r_iconst X dX9_addBoard_2 ?_
  refine r_istore (lv2 := [(4, mI 0), (3, mI 0), (0, .ref (ad 29)), (1, .ref (ad 25)), (2, mI x2)]) X dX9_addBoard_3 (by decide) rfl ?_
  refine r_iconst X dX9_addBoard_5 ?_
  refine r_istore (lv2 := [(5, mI 0), (4, mI 0), (3, mI 0), (0, .ref (ad 29)), (1, .ref (ad 25)), (2, mI x2)]) X dX9_addBoard_6 (by decide) rfl ?_
  refine r_perm (lv2 := [(0, .ref (ad 29)), (1, .ref (ad 25)), (2, mI x2), (3, mI 0), (4, mI 0), (5, mI 0)]) [3, 4, 5, 2, 1, 0] rfl ?_
  refine l_Scale_addBoard_8_ok X ?_ F _ _ _ _ _ hf
  · intro s1 x2_2 x3_3 x4_4 hf
    refine r_iload_n X 3 dX9_addBoard_53 rfl rfl ?_
    refine r_if_ne (tgt := 61) X dX9_addBoard_54 (by decide) (fun hc5 => ?_) (fun hc5 => ?_)
    · have hf := ite_yes hc5 hf
      refine r_iconst X dX9_addBoard_57 ?_
      refine r_goto (tgt := 65) X dX9_addBoard_58 (by decide) ?_
      refine r_istore (lv2 := [(5, mI 0), (0, .ref (ad 29)), (1, .ref (ad 25)), (2, mI x2_2), (3, mI x3_3), (4, mI x4_4)]) X dX9_addBoard_65 (by decide) rfl ?_
      refine r_iconst X dX9_addBoard_67 ?_
      refine r_istore (lv2 := [(6, mI 0), (5, mI 0), (0, .ref (ad 29)), (1, .ref (ad 25)), (2, mI x2_2), (3, mI x3_3), (4, mI x4_4)]) X dX9_addBoard_68 (by decide) rfl ?_
      refine r_perm (lv2 := [(0, .ref (ad 29)), (1, .ref (ad 25)), (2, mI x2_2), (3, mI x3_3), (4, mI x4_4), (5, mI 0), (6, mI 0)]) [2, 3, 4, 5, 6, 1, 0] rfl ?_
      refine l_Scale_addBoard_70_ok X ?_ F _ _ _ _ _ _ hf
      · intro s6  hf
        exact r_vreturn X hf dX9_addBoard_160
    · have hf := ite_no hc5 hf
      refine r_bipush X dX9_addBoard_61 (by decide) ?_
      refine r_iload_n X 3 dX9_addBoard_63 rfl rfl ?_
      obtain ⟨hg7, hf⟩ := gd_some hf
      refine r_idiv X hg7 dX9_addBoard_64 ?_
      refine r_istore (lv2 := [(5, mI (divI 60 x3_3)), (0, .ref (ad 29)), (1, .ref (ad 25)), (2, mI x2_2), (3, mI x3_3), (4, mI x4_4)]) X dX9_addBoard_65 (by decide) rfl ?_
      refine r_iconst X dX9_addBoard_67 ?_
      refine r_istore (lv2 := [(6, mI 0), (5, mI (divI 60 x3_3)), (0, .ref (ad 29)), (1, .ref (ad 25)), (2, mI x2_2), (3, mI x3_3), (4, mI x4_4)]) X dX9_addBoard_68 (by decide) rfl ?_
      refine r_perm (lv2 := [(0, .ref (ad 29)), (1, .ref (ad 25)), (2, mI x2_2), (3, mI x3_3), (4, mI x4_4), (5, mI (divI 60 x3_3)), (6, mI 0)]) [2, 3, 4, 5, 6, 1, 0] rfl ?_
      refine l_Scale_addBoard_70_ok X ?_ F _ _ _ _ _ _ hf
      · intro s8  hf
        exact r_vreturn X hf dX9_addBoard_160
set_option maxRecDepth 100000 in
set_option maxHeartbeats 4000000 in
theorem b_Scale_determinant_18_ok {p : Program} {l : Launch} {e : Env} {s : State} {m : MethodId} {args : Array Value} {below : List Frame} {meth : Method} {c : Code} {D : va_G} {cy : Nat → ClassId} {ad : Nat → Nat} (X : CX p s m args meth c cX9_determinant RX9 4 (some .long) D shX cy ad (aw shX ad)) {F : Nat} {kc : St → Int → Int → Int → Option (Int × St)} {k41 : St → Int → Option (Int × St)} {q : Int × St} (hkc : ∀ sg x1 x2 x3, kc sg x1 x2 x3 = some q → GG p l e rm_Scale_determinant s m args below meth c (QL D shX cy ad below args s q) D shX cy ad (aw shX ad) 4 18 [(0, .ref (ad 29)), (1, mI x1), (2, mI x2), (3, mI x3)] [] sg) (hk41 : ∀ sg x2, k41 sg x2 = some q → GG p l e rm_Scale_determinant s m args below meth c (QL D shX cy ad below args s q) D shX cy ad (aw shX ad) 4 41 [(0, .ref (ad 29)), (2, mI x2)] [] sg) {sg : St} {x1 x2 x3 : Int} (hf : b_Scale_determinant_18  F kc k41 sg x1 x2 x3 = some q) : GG p l e rm_Scale_determinant s m args below meth c (QL D shX cy ad below args s q) D shX cy ad (aw shX ad) 4 18 [(0, .ref (ad 29)), (1, mI x1), (2, mI x2), (3, mI x3)] [] sg := by
  refine r_iload_n X 3 dX9_determinant_18 rfl rfl ?_
  refine r_iload_n X 2 dX9_determinant_19 rfl rfl ?_
  refine r_icmp_gt (tgt := 41) X dX9_determinant_20 (by decide) (fun hc1 => ?_) (fun hc1 => ?_)
  · have hf := ite_yes hc1 hf
    refine r_perm (lv2 := [(0, .ref (ad 29)), (2, mI x2)]) [0, 2] rfl ?_
    exact hk41 _ _ hf
  · have hf := ite_no hc1 hf
    refine r_aload_n X 0 dX9_determinant_23 rfl rfl ?_
    refine r_getR X fl_9_27 k_X_29_5 dX9_determinant_24 ?_
    refine r_iload_n X 3 dX9_determinant_27 rfl rfl ?_
    refine r_aload_n X 0 dX9_determinant_28 rfl rfl ?_
    refine r_iload_n X 3 dX9_determinant_29 rfl rfl ?_
    refine r_iload_n X 1 dX9_determinant_30 rfl rfl ?_
    obtain ⟨q2, hq2, hf⟩ := bd_some hf
    refine r_callVL X (As := [mI x3, mI x1]) (st := [mI x3, .ref (ad 39)]) (as := fun ad => [.ref (ad 29), mI x3, mI x1]) (c_Scale_minor hq2) rfl yw_X9_minor yv_X9_minor ml_RX9_79 o_X_29 rfl rfl ⟨rfl, rfl⟩ ⟨Nat.le_of_ble_eq_true rfl, Nat.le_of_ble_eq_true rfl⟩ rfl rfl (Nat.le_of_ble_eq_true rfl) dX9_determinant_31 ?_
    obtain ⟨hg3, hf⟩ := gd_some hf
    refine r_last X a_X_39 hg3 dX9_determinant_34 ?_
    refine r_iinc (lv2 := [(3, mI (x3 + 1)), (0, .ref (ad 29)), (1, mI x1), (2, mI x2)]) X 3 dX9_determinant_35 rfl (by decide) rfl ?_
    refine r_goto (tgt := 18) X dX9_determinant_38 (by decide) ?_
    refine r_perm (lv2 := [(0, .ref (ad 29)), (1, mI x1), (2, mI x2), (3, mI (x3 + 1))]) [1, 2, 3, 0] rfl ?_
    exact hkc _ _ _ _ hf
set_option maxRecDepth 100000 in
set_option maxHeartbeats 4000000 in
theorem l_Scale_determinant_18_ok {p : Program} {l : Launch} {e : Env} {s : State} {m : MethodId} {args : Array Value} {below : List Frame} {meth : Method} {c : Code} {D : va_G} {cy : Nat → ClassId} {ad : Nat → Nat} (X : CX p s m args meth c cX9_determinant RX9 4 (some .long) D shX cy ad (aw shX ad)) {F : Nat} {k41 : St → Int → Option (Int × St)} {q : Int × St} (hk41 : ∀ sg x2, k41 sg x2 = some q → GG p l e rm_Scale_determinant s m args below meth c (QL D shX cy ad below args s q) D shX cy ad (aw shX ad) 4 41 [(0, .ref (ad 29)), (2, mI x2)] [] sg) : ∀ (n : Nat) (sg : St) (x1 x2 x3 : Int), l_Scale_determinant_18  F k41 n sg x1 x2 x3 = some q → GG p l e rm_Scale_determinant s m args below meth c (QL D shX cy ad below args s q) D shX cy ad (aw shX ad) 4 18 [(0, .ref (ad 29)), (1, mI x1), (2, mI x2), (3, mI x3)] [] sg := by
  intro n
  induction n with
  | zero => intro sg x1 x2 x3 h; cases h
  | succ n ih => exact fun sg x1 x2 x3 h => b_Scale_determinant_18_ok X ih hk41 h
set_option maxRecDepth 100000 in
set_option maxHeartbeats 4000000 in
theorem c_Scale_determinant {l : Launch} {F : Nat} {sg : St} {x1 : Int} {q : Int × St} (hf : f_Scale_determinant F  sg x1 = some q) : ML l shX yX9_determinant cX9_determinant 4 (some .long) rm_Scale_determinant (fun ad => [.ref (ad 29), mI x1]) sg q.2 q.1 := by
  refine mk_l (by decide) (fun _ => Nat.le_of_ble_eq_true rfl) (fun p e s m args below meth c D cy ad X => ?_)
  have X : CX p s m args meth c cX9_determinant RX9 4 (some .long) D shX cy ad (aw shX ad) := X
  refine r_perm (lv2 := [(0, .ref (ad 29)), (1, mI x1)]) [0, 1] rfl ?_
  refine r_iconst X dX9_determinant_0 ?_
  refine r_aload_n X 0 dX9_determinant_1 rfl rfl ?_
  refine r_getI X fl_9_50 k_X_29_2 dX9_determinant_2 ?_
  refine r_ishl X dX9_determinant_5 ?_
  refine r_iconst X dX9_determinant_6 ?_
  refine r_isub X dX9_determinant_7 ?_
  refine r_istore_n (lv2 := [(2, mI ((shlI 1 (sg 29 2)) - 1)), (0, .ref (ad 29)), (1, mI x1)]) X dX9_determinant_8 rfl (by decide) rfl ?_
  refine r_aload_n X 1 dX9_determinant_9 rfl rfl ?_
  refine r_getR X fl_9_27 k_X_29_5 dX9_determinant_10 ?_
  refine r_iconst X dX9_determinant_13 ?_
  refine r_lconst (v := 1) X dX9_determinant_14 (by decide) ?_
  obtain ⟨hg1, hf⟩ := gd_some hf
  refine r_last X a_X_39 hg1 dX9_determinant_15 ?_
  refine r_iconst X dX9_determinant_16 ?_
  refine r_istore_n (lv2 := [(3, mI 1), (2, mI ((shlI 1 (sg 29 2)) - 1)), (0, .ref (ad 29)), (1, mI x1)]) X dX9_determinant_17 rfl (by decide) rfl ?_
  refine r_perm (lv2 := [(0, .ref (ad 29)), (1, mI x1), (2, mI ((shlI 1 (sg 29 2)) - 1)), (3, mI 1)]) [2, 3, 1, 0] rfl ?_
  refine l_Scale_determinant_18_ok X ?_ F _ _ _ _ hf
  · intro s3 x2_4 hf
    refine r_aload_n X 0 dX9_determinant_41 rfl rfl ?_
    refine r_getR X fl_9_27 k_X_29_5 dX9_determinant_42 ?_
    refine r_iload_n X 1 dX9_determinant_45 rfl rfl ?_
    obtain ⟨hg5, hf⟩ := gd_some hf
    refine r_lald X a_X_39 hg5 dX9_determinant_46 ?_
    exact r_lreturn X hf dX9_determinant_47
