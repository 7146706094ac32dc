set_option maxRecDepth 100000 in
set_option maxHeartbeats 4000000 in
theorem c_XJ_bitCount {l : Launch} {sg : St} {x0 : Int} {q : Int × St} (hf : f_XJ_bitCount  sg x0 = some q) : MI l shX yJ6_bitCount_0f7a4 cJ6_bitCount_0f7a4 1 (some .int) rm_XJ_bitCount (fun ad => [mI x0]) sg q.2 q.1 := by
  refine mk_i (by decide +kernel) (fun _ => Nat.le_of_ble_eq_true rfl) (fun p e s m args below meth c D cy ad X => ?_)
  have X : CX p s m args meth c cJ6_bitCount_0f7a4 RJ6 1 (some .int) D shX cy ad (aw shX ad) := X
  refine r_perm (lv2 := [(0, mI x0)]) [0] rfl ?_
  refine r_iload_n X 0 dJ6_bitCount_0f7a4_0 rfl rfl ?_
  refine r_iload_n X 0 dJ6_bitCount_0f7a4_1 rfl rfl ?_
  refine r_iconst X dJ6_bitCount_0f7a4_2 ?_
  refine r_iushr X dJ6_bitCount_0f7a4_3 ?_
  refine r_ldcw X cst_RJ6_265 dJ6_bitCount_0f7a4_4 ?_
  refine r_iand X dJ6_bitCount_0f7a4_7 ?_
  refine r_isub X dJ6_bitCount_0f7a4_8 ?_
  refine r_istore_n (lv2 := [(0, mI (x0 - (andI (ushrI x0 1) 1431655765)))]) X dJ6_bitCount_0f7a4_9 rfl (by decide) rfl ?_
  refine r_iload_n X 0 dJ6_bitCount_0f7a4_10 rfl rfl ?_
  refine r_ldcw X cst_RJ6_266 dJ6_bitCount_0f7a4_11 ?_
  refine r_iand X dJ6_bitCount_0f7a4_14 ?_
  refine r_iload_n X 0 dJ6_bitCount_0f7a4_15 rfl rfl ?_
  refine r_iconst X dJ6_bitCount_0f7a4_16 ?_
  refine r_iushr X dJ6_bitCount_0f7a4_17 ?_
  refine r_ldcw X cst_RJ6_266 dJ6_bitCount_0f7a4_18 ?_
  refine r_iand X dJ6_bitCount_0f7a4_21 ?_
  refine r_iadd X dJ6_bitCount_0f7a4_22 ?_
  refine r_istore_n (lv2 := [(0, mI ((andI (x0 - (andI (ushrI x0 1) 1431655765)) 858993459) + (andI (ushrI (x0 - (andI (ushrI x0 1) 1431655765)) 2) 858993459)))]) X dJ6_bitCount_0f7a4_23 rfl (by decide) rfl ?_
  refine r_iload_n X 0 dJ6_bitCount_0f7a4_24 rfl rfl ?_
  refine r_iload_n X 0 dJ6_bitCount_0f7a4_25 rfl rfl ?_
  refine r_iconst X dJ6_bitCount_0f7a4_26 ?_
  refine r_iushr X dJ6_bitCount_0f7a4_27 ?_
  refine r_iadd X dJ6_bitCount_0f7a4_28 ?_
  refine r_ldcw X cst_RJ6_267 dJ6_bitCount_0f7a4_29 ?_
  refine r_iand X dJ6_bitCount_0f7a4_32 ?_
  refine r_istore_n (lv2 := [(0, mI (andI (((andI (x0 - (andI (ushrI x0 1) 1431655765)) 858993459) + (andI (ushrI (x0 - (andI (ushrI x0 1) 1431655765)) 2) 858993459)) + (ushrI ((andI (x0 - (andI (ushrI x0 1) 1431655765)) 858993459) + (andI (ushrI (x0 - (andI (ushrI x0 1) 1431655765)) 2) 858993459)) 4)) 252645135))]) X dJ6_bitCount_0f7a4_33 rfl (by decide) rfl ?_
  refine r_iload_n X 0 dJ6_bitCount_0f7a4_34 rfl rfl ?_
  refine r_iload_n X 0 dJ6_bitCount_0f7a4_35 rfl rfl ?_
  refine r_bipush X dJ6_bitCount_0f7a4_36 (by decide) ?_
  refine r_iushr X dJ6_bitCount_0f7a4_38 ?_
  refine r_iadd X dJ6_bitCount_0f7a4_39 ?_
  refine r_istore_n (lv2 := [(0, mI ((andI (((andI (x0 - (andI (ushrI x0 1) 1431655765)) 858993459) + (andI (ushrI (x0 - (andI (ushrI x0 1) 1431655765)) 2) 858993459)) + (ushrI ((andI (x0 - (andI (ushrI x0 1) 1431655765)) 858993459) + (andI (ushrI (x0 - (andI (ushrI x0 1) 1431655765)) 2) 858993459)) 4)) 252645135) + (ushrI (andI (((andI (x0 - (andI (ushrI x0 1) 1431655765)) 858993459) + (andI (ushrI (x0 - (andI (ushrI x0 1) 1431655765)) 2) 858993459)) + (ushrI ((andI (x0 - (andI (ushrI x0 1) 1431655765)) 858993459) + (andI (ushrI (x0 - (andI (ushrI x0 1) 1431655765)) 2) 858993459)) 4)) 252645135) 8)))]) X dJ6_bitCount_0f7a4_40 rfl (by decide) rfl ?_
  refine r_iload_n X 0 dJ6_bitCount_0f7a4_41 rfl rfl ?_
  refine r_iload_n X 0 dJ6_bitCount_0f7a4_42 rfl rfl ?_
  refine r_bipush X dJ6_bitCount_0f7a4_43 (by decide) ?_
  refine r_iushr X dJ6_bitCount_0f7a4_45 ?_
  refine r_iadd X dJ6_bitCount_0f7a4_46 ?_
  refine r_istore_n (lv2 := [(0, mI (((andI (((andI (x0 - (andI (ushrI x0 1) 1431655765)) 858993459) + (andI (ushrI (x0 - (andI (ushrI x0 1) 1431655765)) 2) 858993459)) + (ushrI ((andI (x0 - (andI (ushrI x0 1) 1431655765)) 858993459) + (andI (ushrI (x0 - (andI (ushrI x0 1) 1431655765)) 2) 858993459)) 4)) 252645135) + (ushrI (andI (((andI (x0 - (andI (ushrI x0 1) 1431655765)) 858993459) + (andI (ushrI (x0 - (andI (ushrI x0 1) 1431655765)) 2) 858993459)) + (ushrI ((andI (x0 - (andI (ushrI x0 1) 1431655765)) 858993459) + (andI (ushrI (x0 - (andI (ushrI x0 1) 1431655765)) 2) 858993459)) 4)) 252645135) 8)) + (ushrI ((andI (((andI (x0 - (andI (ushrI x0 1) 1431655765)) 858993459) + (andI (ushrI (x0 - (andI (ushrI x0 1) 1431655765)) 2) 858993459)) + (ushrI ((andI (x0 - (andI (ushrI x0 1) 1431655765)) 858993459) + (andI (ushrI (x0 - (andI (ushrI x0 1) 1431655765)) 2) 858993459)) 4)) 252645135) + (ushrI (andI (((andI (x0 - (andI (ushrI x0 1) 1431655765)) 858993459) + (andI (ushrI (x0 - (andI (ushrI x0 1) 1431655765)) 2) 858993459)) + (ushrI ((andI (x0 - (andI (ushrI x0 1) 1431655765)) 858993459) + (andI (ushrI (x0 - (andI (ushrI x0 1) 1431655765)) 2) 858993459)) 4)) 252645135) 8)) 16)))]) X dJ6_bitCount_0f7a4_47 rfl (by decide) rfl ?_
  refine r_iload_n X 0 dJ6_bitCount_0f7a4_48 rfl rfl ?_
  refine r_bipush X dJ6_bitCount_0f7a4_49 (by decide) ?_
  refine r_iand X dJ6_bitCount_0f7a4_51 ?_
  exact r_ireturn X hf dJ6_bitCount_0f7a4_52
set_option maxRecDepth 100000 in
set_option maxHeartbeats 4000000 in
theorem c_XJ_abs {l : Launch} {sg : St} {x0 : Int} {q : Int × St} (hf : f_XJ_abs  sg x0 = some q) : ML l shX yJ9_abs_067f4 cJ9_abs_067f4 2 (some .long) rm_XJ_abs (fun ad => [mL x0]) sg q.2 q.1 := by
  refine mk_l (by decide +kernel) (fun _ => Nat.le_of_ble_eq_true rfl) (fun p e s m args below meth c D cy ad X => ?_)
  have X : CX p s m args meth c cJ9_abs_067f4 RJ9 2 (some .long) D shX cy ad (aw shX ad) := X
  refine r_perm (lv2 := [(0, mL x0)]) [0] rfl ?_
  refine r_lload_n X 0 dJ9_abs_067f4_0 rfl rfl ?_
  refine r_lconst (v := 0) X dJ9_abs_067f4_1 (by decide) ?_
  refine r_lc_ge (tgt := 11) X dJ9_abs_067f4_2 dJ9_abs_067f4_3 (by decide) (fun hc1 => ?_) (fun hc1 => ?_)
  · have hf := ite_yes hc1 hf
    refine r_lload_n X 0 dJ9_abs_067f4_11 rfl rfl ?_
    exact r_lreturn X hf dJ9_abs_067f4_12
  · have hf := ite_no hc1 hf
    refine r_lload_n X 0 dJ9_abs_067f4_6 rfl rfl ?_
    refine r_lneg X dJ9_abs_067f4_7 ?_
    refine r_goto (tgt := 12) X dJ9_abs_067f4_8 (by decide) ?_
    exact r_lreturn X hf dJ9_abs_067f4_12
set_option maxRecDepth 100000 in
set_option maxHeartbeats 4000000 in
theorem c_XJ_floorDiv {l : Launch} {sg : St} {x0 x2 : Int} {q : Int × St} (hf : f_XJ_floorDiv  sg x0 x2 = some q) : ML l shX yJ9_floorDiv_f86c9 cJ9_floorDiv_f86c9 6 (some .long) rm_XJ_floorDiv (fun ad => [mL x0, mL x2]) sg q.2 q.1 := by
  refine mk_l (by decide +kernel) (fun _ => Nat.le_of_ble_eq_true rfl) (fun p e s m args below meth c D cy ad X => ?_)
  have X : CX p s m args meth c cJ9_floorDiv_f86c9 RJ9 6 (some .long) D shX cy ad (aw shX ad) := X
  refine r_perm (lv2 := [(0, mL x0), (2, mL x2)]) [0, 1] rfl ?_
  refine r_lload_n X 0 dJ9_floorDiv_f86c9_0 rfl rfl ?_
  refine r_lload_n X 1 dJ9_floorDiv_f86c9_1 rfl rfl ?_
  obtain ⟨hg1, hf⟩ := gd_some hf
  refine r_ldiv X hg1 dJ9_floorDiv_f86c9_2 ?_
  refine r_lstore (lv2 := [(4, mL (divL x0 x2)), (0, mL x0), (2, mL x2)]) X dJ9_floorDiv_f86c9_3 (by decide) rfl ?_
  refine r_lload_n X 1 dJ9_floorDiv_f86c9_5 rfl rfl ?_
  refine r_lload_n X 2 dJ9_floorDiv_f86c9_6 rfl rfl ?_
  refine r_lxor X dJ9_floorDiv_f86c9_7 ?_
  refine r_lconst (v := 0) X dJ9_floorDiv_f86c9_8 (by decide) ?_
  refine r_lc_ge (tgt := 27) X dJ9_floorDiv_f86c9_9 dJ9_floorDiv_f86c9_10 (by decide) (fun hc2 => ?_) (fun hc2 => ?_)
  · have hf := ite_yes hc2 hf
    refine r_lload X 0 dJ9_floorDiv_f86c9_27 rfl ?_
    exact r_lreturn X hf dJ9_floorDiv_f86c9_29
  · have hf := ite_no hc2 hf
    refine r_lload X 0 dJ9_floorDiv_f86c9_13 rfl ?_
    refine r_lload_n X 2 dJ9_floorDiv_f86c9_15 rfl rfl ?_
    refine r_lmul X dJ9_floorDiv_f86c9_16 ?_
    refine r_lload_n X 1 dJ9_floorDiv_f86c9_17 rfl rfl ?_
    refine r_lc_eq (tgt := 27) X dJ9_floorDiv_f86c9_18 dJ9_floorDiv_f86c9_19 (by decide) (fun hc3 => ?_) (fun hc3 => ?_)
    · have hf := ite_yes hc3 hf
      refine r_lload X 0 dJ9_floorDiv_f86c9_27 rfl ?_
      exact r_lreturn X hf dJ9_floorDiv_f86c9_29
    · have hf := ite_no hc3 hf
      refine r_lload X 0 dJ9_floorDiv_f86c9_22 rfl ?_
      refine r_lconst (v := 1) X dJ9_floorDiv_f86c9_24 (by decide) ?_
      refine r_lsub X dJ9_floorDiv_f86c9_25 ?_
      exact r_lreturn X hf dJ9_floorDiv_f86c9_26
set_option maxRecDepth 100000 in
set_option maxHeartbeats 4000000 in
theorem c_XJ_min {l : Launch} {sg : St} {x0 x1 : Int} {q : Int × St} (hf : f_XJ_min  sg x0 x1 = some q) : MI l shX yJ9_min_7cf53 cJ9_min_7cf53 2 (some .int) rm_XJ_min (fun ad => [mI x0, mI x1]) sg q.2 q.1 := by
  refine mk_i (by decide +kernel) (fun _ => Nat.le_of_ble_eq_true rfl) (fun p e s m args below meth c D cy ad X => ?_)
  have X : CX p s m args meth c cJ9_min_7cf53 RJ9 2 (some .int) D shX cy ad (aw shX ad) := X
  refine r_perm (lv2 := [(0, mI x0), (1, mI x1)]) [0, 1] rfl ?_
  refine r_iload_n X 0 dJ9_min_7cf53_0 rfl rfl ?_
  refine r_iload_n X 1 dJ9_min_7cf53_1 rfl rfl ?_
  refine r_icmp_gt (tgt := 9) X dJ9_min_7cf53_2 (by decide) (fun hc1 => ?_) (fun hc1 => ?_)
  · have hf := ite_yes hc1 hf
    refine r_iload_n X 1 dJ9_min_7cf53_9 rfl rfl ?_
    exact r_ireturn X hf dJ9_min_7cf53_10
  · have hf := ite_no hc1 hf
    refine r_iload_n X 0 dJ9_min_7cf53_5 rfl rfl ?_
    refine r_goto (tgt := 10) X dJ9_min_7cf53_6 (by decide) ?_
    exact r_ireturn X hf dJ9_min_7cf53_10
set_option maxRecDepth 100000 in
set_option maxHeartbeats 4000000 in
theorem c_XJ_max {l : Launch} {sg : St} {x0 x1 : Int} {q : Int × St} (hf : f_XJ_max  sg x0 x1 = some q) : MI l shX yJ9_max_7cf53 cJ9_max_7cf53 2 (some .int) rm_XJ_max (fun ad => [mI x0, mI x1]) sg q.2 q.1 := by
  refine mk_i (by decide +kernel) (fun _ => Nat.le_of_ble_eq_true rfl) (fun p e s m args below meth c D cy ad X => ?_)
  have X : CX p s m args meth c cJ9_max_7cf53 RJ9 2 (some .int) D shX cy ad (aw shX ad) := X
  refine r_perm (lv2 := [(0, mI x0), (1, mI x1)]) [0, 1] rfl ?_
  refine r_iload_n X 0 dJ9_max_7cf53_0 rfl rfl ?_
  refine r_iload_n X 1 dJ9_max_7cf53_1 rfl rfl ?_
  refine r_icmp_lt (tgt := 9) X dJ9_max_7cf53_2 (by decide) (fun hc1 => ?_) (fun hc1 => ?_)
  · have hf := ite_yes hc1 hf
    refine r_iload_n X 1 dJ9_max_7cf53_9 rfl rfl ?_
    exact r_ireturn X hf dJ9_max_7cf53_10
  · have hf := ite_no hc1 hf
    refine r_iload_n X 0 dJ9_max_7cf53_5 rfl rfl ?_
    refine r_goto (tgt := 10) X dJ9_max_7cf53_6 (by decide) ?_
    exact r_ireturn X hf dJ9_max_7cf53_10
set_option maxRecDepth 100000 in
set_option maxHeartbeats 4000000 in
theorem c_Boards_has {l : Launch} {sg : St} {x1 : Int} {q : Int × St} (hf : f_Boards_has  sg x1 = some q) : MI l shX yX0_has cX0_has 2 (some .boolean) rm_Boards_has (fun ad => [.ref (ad 1), mI x1]) sg q.2 q.1 := by
  refine mk_i (by decide) (fun _ => Nat.le_of_ble_eq_true rfl) (fun p e s m args below meth c D cy ad X => ?_)
  have X : CX p s m args meth c cX0_has RX0 2 (some .boolean) D shX cy ad (aw shX ad) := X
  refine r_perm (lv2 := [(0, .ref (ad 1)), (1, mI x1)]) [0, 1] rfl ?_
  refine r_iload_n X 1 dX0_has_0 rfl rfl ?_
  refine r_if_lt (tgt := 16) X dX0_has_1 (by decide) (fun hc1 => ?_) (fun hc1 => ?_)
  · have hf := ite_yes hc1 hf
    refine r_iconst X dX0_has_16 ?_
    exact r_zreturn X hf rfl dX0_has_17
  · have hf := ite_no hc1 hf
    refine r_iload_n X 1 dX0_has_4 rfl rfl ?_
    refine r_aload_n X 0 dX0_has_5 rfl rfl ?_
    refine r_getI X fl_0_27 k_X_1_0 dX0_has_6 ?_
    refine r_icmp_ge (tgt := 16) X dX0_has_9 (by decide) (fun hc2 => ?_) (fun hc2 => ?_)
    · have hf := ite_yes hc2 hf
      refine r_iconst X dX0_has_16 ?_
      exact r_zreturn X hf rfl dX0_has_17
    · have hf := ite_no hc2 hf
      refine r_iconst X dX0_has_12 ?_
      refine r_goto (tgt := 17) X dX0_has_13 (by decide) ?_
      exact r_zreturn X hf rfl dX0_has_17
set_option maxRecDepth 100000 in
set_option maxHeartbeats 4000000 in
theorem b_Boards_add_55_ok {p : Program} {l : Launch} {e : Env} {s : State} {m : MethodId} {args : Array Value} {below : List Frame} {meth : Method} {c : Code} {D : va_G} {cy : Nat → ClassId} {ad : Nat → Nat} (X : CX p s m args meth c cX0_add RX0 7 (some .int) D shX cy ad (aw shX ad)) {F : Nat} {q : Int × St} {sg : St} {x6 z0 z1 : Int} (hf : b_Boards_add_55  F  sg x6 z0 z1 = some q) : GG p l e rm_Boards_add s m args below meth c (QI D shX cy ad below args s q) D shX cy ad (aw shX ad) 7 55 [(0, .ref (ad 1)), (6, mI x6)] [mI z0, mI z1, .ref (ad 6)] sg := by
  obtain ⟨hg1, hf⟩ := gd_some hf
  refine r_iast X a_X_6 hg1 dX0_add_55 ?_
  refine r_aload_n X 0 dX0_add_56 rfl rfl ?_
  refine r_dup X dX0_add_57 rfl ?_
  refine r_getI X fl_0_27 k_X_1_0 dX0_add_58 ?_
  refine r_iconst X dX0_add_61 ?_
  refine r_iadd X dX0_add_62 ?_
  refine r_putI X fp_0_27 k_X_1_0 rfl rfl dX0_add_63 ?_
  refine r_iload X 1 dX0_add_66 rfl ?_
  exact r_ireturn X hf dX0_add_68
set_option maxRecDepth 100000 in
set_option maxHeartbeats 4000000 in
theorem c_Boards_add {l : Launch} {sg : St} {x1 x2 x3 x4 x5 : Int} {q : Int × St} (hf : f_Boards_add  sg x1 x2 x3 x4 x5 = some q) : MI l shX yX0_add cX0_add 7 (some .int) rm_Boards_add (fun ad => [.ref (ad 1), mI x1, mI x2, mI x3, mI x4, mI x5]) sg q.2 q.1 := by
  refine mk_i (by decide) (fun _ => Nat.le_of_ble_eq_true rfl) (fun p e s m args below meth c D cy ad X => ?_)
  have X : CX p s m args meth c cX0_add RX0 7 (some .int) D shX cy ad (aw shX ad) := X
  refine r_perm (lv2 := [(0, .ref (ad 1)), (1, mI x1), (2, mI x2), (3, mI x3), (4, mI x4), (5, mI x5)]) [0, 1, 2, 3, 4, 5] rfl ?_
  refine r_aload_n X 0 dX0_add_0 rfl rfl ?_
  refine r_getI X fl_0_27 k_X_1_0 dX0_add_1 ?_
  refine r_istore (lv2 := [(6, mI (sg 1 0)), (0, .ref (ad 1)), (1, mI x1), (2, mI x2), (3, mI x3), (4, mI x4), (5, mI x5)]) X dX0_add_4 (by decide) rfl ?_
  refine r_aload_n X 1 dX0_add_6 rfl rfl ?_
  refine r_getR X fl_0_9 k_X_1_1 dX0_add_7 ?_
  refine r_iload X 0 dX0_add_10 rfl ?_
  refine r_iload_n X 2 dX0_add_12 rfl rfl ?_
  obtain ⟨hg1, hf⟩ := gd_some hf
  refine r_iast X a_X_2 hg1 dX0_add_13 ?_
  refine r_aload_n X 1 dX0_add_14 rfl rfl ?_
  refine r_getR X fl_0_15 k_X_1_2 dX0_add_15 ?_
  refine r_iload X 0 dX0_add_18 rfl ?_
  refine r_iload_n X 3 dX0_add_20 rfl rfl ?_
  obtain ⟨hg3, hf⟩ := gd_some hf
  refine r_iast X a_X_3 hg3 dX0_add_21 ?_
  refine r_aload_n X 1 dX0_add_22 rfl rfl ?_
  refine r_getR X fl_0_18 k_X_1_3 dX0_add_23 ?_
  refine r_iload X 0 dX0_add_26 rfl ?_
  refine r_iload_n X 4 dX0_add_28 rfl rfl ?_
  obtain ⟨hg5, hf⟩ := gd_some hf
  refine r_iast X a_X_4 hg5 dX0_add_29 ?_
  refine r_aload_n X 1 dX0_add_30 rfl rfl ?_
  refine r_getR X fl_0_21 k_X_1_4 dX0_add_31 ?_
  refine r_iload X 0 dX0_add_34 rfl ?_
  refine r_iload X 5 dX0_add_36 rfl ?_
  obtain ⟨hg7, hf⟩ := gd_some hf
  refine r_iast X a_X_5 hg7 dX0_add_38 ?_
  refine r_aload_n X 1 dX0_add_39 rfl rfl ?_
  refine r_getR X fl_0_24 k_X_1_5 dX0_add_40 ?_
  refine r_iload X 0 dX0_add_43 rfl ?_
  refine r_iload X 6 dX0_add_45 rfl ?_
  refine r_if_eq (tgt := 54) X dX0_add_47 (by decide) (fun hc9 => ?_) (fun hc9 => ?_)
  · have hf := ite_yes hc9 hf
    refine r_iconst X dX0_add_54 ?_
    refine r_perm (lv2 := [(0, .ref (ad 1)), (6, mI (sg 1 0))]) [1, 0] rfl ?_
    exact b_Boards_add_55_ok X  hf
  · have hf := ite_no hc9 hf
    refine r_iconst X dX0_add_50 ?_
    refine r_goto (tgt := 55) X dX0_add_51 (by decide) ?_
    refine r_perm (lv2 := [(0, .ref (ad 1)), (6, mI (sg 1 0))]) [1, 0] rfl ?_
    exact b_Boards_add_55_ok X  hf
set_option maxRecDepth 100000 in
set_option maxHeartbeats 4000000 in
theorem c_Boards_trait {l : Launch} {sg : St} {x1 x2 : Int} {q : Int × St} (hf : f_Boards_trait  sg x1 x2 = some q) : MI l shX yX0_trait cX0_trait 3 (some .int) rm_Boards_trait (fun ad => [.ref (ad 1), mI x1, mI x2]) sg q.2 q.1 := by
  refine mk_i (by decide) (fun _ => Nat.le_of_ble_eq_true rfl) (fun p e s m args below meth c D cy ad X => ?_)
  have X : CX p s m args meth c cX0_trait RX0 3 (some .int) D shX cy ad (aw shX ad) := X
  refine r_perm (lv2 := [(0, .ref (ad 1)), (1, mI x1), (2, mI x2)]) [0, 1, 2] rfl ?_
  refine r_iload_n X 2 dX0_trait_0 rfl rfl ?_
  by_cases hc9 : w32 x2 = 0
  · have hf := ite_yes hc9 hf
    refine r_tableIn (tgt := 32) X dX0_trait_1 hc9 (by decide) (by decide) rfl (by decide) ?_
    refine r_aload_n X 0 dX0_trait_32 rfl rfl ?_
    refine r_getR X fl_0_9 k_X_1_1 dX0_trait_33 ?_
    refine r_iload_n X 1 dX0_trait_36 rfl rfl ?_
    obtain ⟨hg8, hf⟩ := gd_some hf
    refine r_iald X a_X_2 hg8 dX0_trait_37 ?_
    exact r_ireturn X hf dX0_trait_38
  · have hf := ite_no hc9 hf
    by_cases hc7 : w32 x2 = 1
    · have hf := ite_yes hc7 hf
      refine r_tableIn (tgt := 39) X dX0_trait_1 hc7 (by decide) (by decide) rfl (by decide) ?_
      refine r_aload_n X 0 dX0_trait_39 rfl rfl ?_
      refine r_getR X fl_0_15 k_X_1_2 dX0_trait_40 ?_
      refine r_iload_n X 1 dX0_trait_43 rfl rfl ?_
      obtain ⟨hg6, hf⟩ := gd_some hf
      refine r_iald X a_X_3 hg6 dX0_trait_44 ?_
      exact r_ireturn X hf dX0_trait_45
    · have hf := ite_no hc7 hf
      by_cases hc5 : w32 x2 = 2
      · have hf := ite_yes hc5 hf
        refine r_tableIn (tgt := 46) X dX0_trait_1 hc5 (by decide) (by decide) rfl (by decide) ?_
        refine r_aload_n X 0 dX0_trait_46 rfl rfl ?_
        refine r_getR X fl_0_18 k_X_1_3 dX0_trait_47 ?_
        refine r_iload_n X 1 dX0_trait_50 rfl rfl ?_
        obtain ⟨hg4, hf⟩ := gd_some hf
        refine r_iald X a_X_4 hg4 dX0_trait_51 ?_
        exact r_ireturn X hf dX0_trait_52
      · have hf := ite_no hc5 hf
        by_cases hc3 : w32 x2 = 3
        · have hf := ite_yes hc3 hf
          refine r_tableIn (tgt := 53) X dX0_trait_1 hc3 (by decide) (by decide) rfl (by decide) ?_
          refine r_aload_n X 0 dX0_trait_53 rfl rfl ?_
          refine r_getR X fl_0_21 k_X_1_4 dX0_trait_54 ?_
          refine r_iload_n X 1 dX0_trait_57 rfl rfl ?_
          obtain ⟨hg2, hf⟩ := gd_some hf
          refine r_iald X a_X_5 hg2 dX0_trait_58 ?_
          exact r_ireturn X hf dX0_trait_59
        · have hf := ite_no hc3 hf
          refine r_tableOut (tgt := 60) X dX0_trait_1 (by have h8 := w32_bd x2; omega) (by decide) ?_
          refine r_aload_n X 0 dX0_trait_60 rfl rfl ?_
          refine r_getR X fl_0_24 k_X_1_5 dX0_trait_61 ?_
          refine r_iload_n X 1 dX0_trait_64 rfl rfl ?_
          obtain ⟨hg1, hf⟩ := gd_some hf
          refine r_iald X a_X_6 hg1 dX0_trait_65 ?_
          exact r_ireturn X hf dX0_trait_66
set_option maxRecDepth 100000 in
set_option maxHeartbeats 4000000 in
theorem b_Frac_isAbove_29_ok {p : Program} {l : Launch} {e : Env} {s : State} {m : MethodId} {args : Array Value} {below : List Frame} {meth : Method} {c : Code} {D : va_G} {cy : Nat → ClassId} {ad : Nat → Nat} (X : CX p s m args meth c cX1_isAbove RX1 20 (some .boolean) D shX cy ad (aw shX ad)) {cf co : Nat} (hcf : FRc cf) (hco : FRc co) {F : Nat} {kc : St → Int → Int → Int → Int → Int → Int → Option (Int × St)} {k89 : St → Int → Int → Option (Int × St)} {k152 : St → Int → Int → Int → Option (Int × St)} {q : Int × St} (hkc : ∀ sg x2 x4 x6 x8 x10 x11, kc sg x2 x4 x6 x8 x10 x11 = some q → GG p l e rm_Frac_isAbove s m args below meth c (QI D shX cy ad below args s q) D shX cy ad (aw shX ad) 20 29 [(2, mL x2), (4, mL x4), (6, mL x6), (8, mL x8), (10, mI x10), (11, mI x11)] [] sg) (hk89 : ∀ sg x10 z0, k89 sg x10 z0 = some q → GG p l e rm_Frac_isAbove s m args below meth c (QI D shX cy ad below args s q) D shX cy ad (aw shX ad) 20 89 [(10, mI x10)] [mI z0] sg) (hk152 : ∀ sg x4 x8 x10, k152 sg x4 x8 x10 = some q → GG p l e rm_Frac_isAbove s m args below meth c (QI D shX cy ad below args s q) D shX cy ad (aw shX ad) 20 152 [(4, mL x4), (8, mL x8), (10, mI x10)] [] sg) {sg : St} {x2 x4 x6 x8 x10 x11 : Int} (hf : b_Frac_isAbove_29 cf co F kc k89 k152 sg x2 x4 x6 x8 x10 x11 = some q) : GG p l e rm_Frac_isAbove s m args below meth c (QI D shX cy ad below args s q) D shX cy ad (aw shX ad) 20 29 [(2, mL x2), (4, mL x4), (6, mL x6), (8, mL x8), (10, mI x10), (11, mI x11)] [] sg := by
  refine r_iload X 5 dX1_isAbove_29 rfl ?_
  refine r_sipush X dX1_isAbove_31 (by decide) ?_
  refine r_icmp_ge (tgt := 152) X dX1_isAbove_34 (by decide) (fun hc1 => ?_) (fun hc1 => ?_)
  · have hf := ite_yes hc1 hf
    refine r_perm (lv2 := [(4, mL x4), (8, mL x8), (10, mI x10)]) [1, 3, 4] rfl ?_
    exact hk152 _ _ _ _ hf
  · have hf := ite_no hc1 hf
    refine r_lload X 1 dX1_isAbove_37 rfl ?_
    refine r_lconst (v := 0) X dX1_isAbove_39 (by decide) ?_
    refine r_lc_le (tgt := 152) X dX1_isAbove_40 dX1_isAbove_41 (by decide) (fun hc2 => ?_) (fun hc2 => ?_)
    · have hf := ite_yes hc2 hf
      refine r_perm (lv2 := [(4, mL x4), (8, mL x8), (10, mI x10)]) [1, 3, 4] rfl ?_
      exact hk152 _ _ _ _ hf
    · have hf := ite_no hc2 hf
      refine r_lload X 3 dX1_isAbove_44 rfl ?_
      refine r_lconst (v := 0) X dX1_isAbove_46 (by decide) ?_
      refine r_lc_le (tgt := 152) X dX1_isAbove_47 dX1_isAbove_48 (by decide) (fun hc3 => ?_) (fun hc3 => ?_)
      · have hf := ite_yes hc3 hf
        refine r_perm (lv2 := [(4, mL x4), (8, mL x8), (10, mI x10)]) [1, 3, 4] rfl ?_
        exact hk152 _ _ _ _ hf
      · have hf := ite_no hc3 hf
        refine r_lload_n X 0 dX1_isAbove_51 rfl rfl ?_
        refine r_lload X 1 dX1_isAbove_52 rfl ?_
        obtain ⟨q4, hq4, hf⟩ := bd_some hf
        refine r_callSL X (As := [mL x2, mL x4]) (st := []) (as := fun ad => [mL x2, mL x4]) (c_XJ_floorDiv hq4) rfl yw_J9_floorDiv_f86c9 ys_J9_floorDiv_f86c9 ml_RX1_26 ⟨rfl, rfl⟩ ⟨Nat.le_of_ble_eq_true rfl, Nat.le_of_ble_eq_true rfl⟩ rfl rfl (Nat.le_of_ble_eq_true rfl) dX1_isAbove_54 ?_
        refine r_lstore (lv2 := [(12, mL q4.1), (2, mL x2), (4, mL x4), (6, mL x6), (8, mL x8), (10, mI x10), (11, mI x11)]) X dX1_isAbove_57 (by decide) rfl ?_
        refine r_lload X 3 dX1_isAbove_59 rfl ?_
        refine r_lload X 4 dX1_isAbove_61 rfl ?_
        obtain ⟨q5, hq5, hf⟩ := bd_some hf
        refine r_callSL X (As := [mL x6, mL x8]) (st := []) (as := fun ad => [mL x6, mL x8]) (c_XJ_floorDiv hq5) rfl yw_J9_floorDiv_f86c9 ys_J9_floorDiv_f86c9 ml_RX1_26 ⟨rfl, rfl⟩ ⟨Nat.le_of_ble_eq_true rfl, Nat.le_of_ble_eq_true rfl⟩ rfl rfl (Nat.le_of_ble_eq_true rfl) dX1_isAbove_63 ?_
        refine r_lstore (lv2 := [(14, mL q5.1), (12, mL q4.1), (2, mL x2), (4, mL x4), (6, mL x6), (8, mL x8), (10, mI x10), (11, mI x11)]) X dX1_isAbove_66 (by decide) rfl ?_
        refine r_lload X 1 dX1_isAbove_68 rfl ?_
        refine r_lload X 0 dX1_isAbove_70 rfl ?_
        refine r_lc_eq (tgt := 100) X dX1_isAbove_72 dX1_isAbove_73 (by decide) (fun hc6 => ?_) (fun hc6 => ?_)
        · have hf := ite_yes hc6 hf
          refine r_lload_n X 2 dX1_isAbove_100 rfl rfl ?_
          refine r_lload X 1 dX1_isAbove_101 rfl ?_
          refine r_lload X 3 dX1_isAbove_103 rfl ?_
          refine r_lmul X dX1_isAbove_105 ?_
          refine r_lsub X dX1_isAbove_106 ?_
          refine r_lstore (lv2 := [(16, mL (x2 - (q4.1 * x4))), (14, mL q5.1), (12, mL q4.1), (2, mL x2), (4, mL x4), (6, mL x6), (8, mL x8), (10, mI x10), (11, mI x11)]) X dX1_isAbove_107 (by decide) rfl ?_
          refine r_lload X 5 dX1_isAbove_109 rfl ?_
          refine r_lload X 1 dX1_isAbove_111 rfl ?_
          refine r_lload X 6 dX1_isAbove_113 rfl ?_
          refine r_lmul X dX1_isAbove_115 ?_
          refine r_lsub X dX1_isAbove_116 ?_
          refine r_lstore (lv2 := [(18, mL (x6 - (q5.1 * x8))), (16, mL (x2 - (q4.1 * x4))), (14, mL q5.1), (12, mL q4.1), (2, mL x2), (4, mL x4), (6, mL x6), (8, mL x8), (10, mI x10), (11, mI x11)]) X dX1_isAbove_117 (by decide) rfl ?_
          refine r_lload X 5 dX1_isAbove_119 rfl ?_
          refine r_lstore_n (lv2 := [(2, mL x4), (18, mL (x6 - (q5.1 * x8))), (16, mL (x2 - (q4.1 * x4))), (14, mL q5.1), (12, mL q4.1), (4, mL x4), (6, mL x6), (8, mL x8), (10, mI x10), (11, mI x11)]) X dX1_isAbove_121 rfl (by decide) rfl ?_
          refine r_lload X 2 dX1_isAbove_122 rfl ?_
          refine r_lstore (lv2 := [(4, mL (x2 - (q4.1 * x4))), (2, mL x4), (18, mL (x6 - (q5.1 * x8))), (16, mL (x2 - (q4.1 * x4))), (14, mL q5.1), (12, mL q4.1), (6, mL x6), (8, mL x8), (10, mI x10), (11, mI x11)]) X dX1_isAbove_124 (by decide) rfl ?_
          refine r_lload X 7 dX1_isAbove_126 rfl ?_
          refine r_lstore (lv2 := [(6, mL x8), (4, mL (x2 - (q4.1 * x4))), (2, mL x4), (18, mL (x6 - (q5.1 * x8))), (16, mL (x2 - (q4.1 * x4))), (14, mL q5.1), (12, mL q4.1), (8, mL x8), (10, mI x10), (11, mI x11)]) X dX1_isAbove_128 (by decide) rfl ?_
          refine r_lload X 3 dX1_isAbove_130 rfl ?_
          refine r_lstore (lv2 := [(8, mL (x6 - (q5.1 * x8))), (6, mL x8), (4, mL (x2 - (q4.1 * x4))), (2, mL x4), (18, mL (x6 - (q5.1 * x8))), (16, mL (x2 - (q4.1 * x4))), (14, mL q5.1), (12, mL q4.1), (10, mI x10), (11, mI x11)]) X dX1_isAbove_132 (by decide) rfl ?_
          refine r_iload X 8 dX1_isAbove_134 rfl ?_
          refine r_if_ne (tgt := 143) X dX1_isAbove_136 (by decide) (fun hc8 => ?_) (fun hc8 => ?_)
          · have hf := ite_yes hc8 hf
            refine r_iconst X dX1_isAbove_139 ?_
            refine r_goto (tgt := 144) X dX1_isAbove_140 (by decide) ?_
            refine r_istore (lv2 := [(10, mI 1), (8, mL (x6 - (q5.1 * x8))), (6, mL x8), (4, mL (x2 - (q4.1 * x4))), (2, mL x4), (18, mL (x6 - (q5.1 * x8))), (16, mL (x2 - (q4.1 * x4))), (14, mL q5.1), (12, mL q4.1), (11, mI x11)]) X dX1_isAbove_144 (by decide) rfl ?_
            refine r_iinc (lv2 := [(11, mI (x11 + 1)), (10, mI 1), (8, mL (x6 - (q5.1 * x8))), (6, mL x8), (4, mL (x2 - (q4.1 * x4))), (2, mL x4), (18, mL (x6 - (q5.1 * x8))), (16, mL (x2 - (q4.1 * x4))), (14, mL q5.1), (12, mL q4.1)]) X 9 dX1_isAbove_146 rfl (by decide) rfl ?_
            refine r_goto (tgt := 29) X dX1_isAbove_149 (by decide) ?_
            refine r_perm (lv2 := [(2, mL x4), (4, mL (x2 - (q4.1 * x4))), (6, mL x8), (8, mL (x6 - (q5.1 * x8))), (10, mI 1), (11, mI (x11 + 1))]) [5, 4, 3, 2, 1, 0] rfl ?_
            exact hkc _ _ _ _ _ _ _ hf
          · have hf := ite_no hc8 hf
            refine r_iconst X dX1_isAbove_143 ?_
            refine r_istore (lv2 := [(10, mI 0), (8, mL (x6 - (q5.1 * x8))), (6, mL x8), (4, mL (x2 - (q4.1 * x4))), (2, mL x4), (18, mL (x6 - (q5.1 * x8))), (16, mL (x2 - (q4.1 * x4))), (14, mL q5.1), (12, mL q4.1), (11, mI x11)]) X dX1_isAbove_144 (by decide) rfl ?_
            refine r_iinc (lv2 := [(11, mI (x11 + 1)), (10, mI 0), (8, mL (x6 - (q5.1 * x8))), (6, mL x8), (4, mL (x2 - (q4.1 * x4))), (2, mL x4), (18, mL (x6 - (q5.1 * x8))), (16, mL (x2 - (q4.1 * x4))), (14, mL q5.1), (12, mL q4.1)]) X 9 dX1_isAbove_146 rfl (by decide) rfl ?_
            refine r_goto (tgt := 29) X dX1_isAbove_149 (by decide) ?_
            refine r_perm (lv2 := [(2, mL x4), (4, mL (x2 - (q4.1 * x4))), (6, mL x8), (8, mL (x6 - (q5.1 * x8))), (10, mI 0), (11, mI (x11 + 1))]) [5, 4, 3, 2, 1, 0] rfl ?_
            exact hkc _ _ _ _ _ _ _ hf
        · have hf := ite_no hc6 hf
          refine r_lload X 1 dX1_isAbove_76 rfl ?_
          refine r_lload X 0 dX1_isAbove_78 rfl ?_
          refine r_lc_le (tgt := 88) X dX1_isAbove_80 dX1_isAbove_81 (by decide) (fun hc7 => ?_) (fun hc7 => ?_)
          · have hf := ite_yes hc7 hf
            refine r_iconst X dX1_isAbove_88 ?_
            refine r_perm (lv2 := [(10, mI x10)]) [6] rfl ?_
            exact hk89 _ _ _ hf
          · have hf := ite_no hc7 hf
            refine r_iconst X dX1_isAbove_84 ?_
            refine r_goto (tgt := 89) X dX1_isAbove_85 (by decide) ?_
            refine r_perm (lv2 := [(10, mI x10)]) [6] rfl ?_
            exact hk89 _ _ _ hf
set_option maxRecDepth 100000 in
set_option maxHeartbeats 4000000 in
theorem l_Frac_isAbove_29_ok {p : Program} {l : Launch} {e : Env} {s : State} {m : MethodId} {args : Array Value} {below : List Frame} {meth : Method} {c : Code} {D : va_G} {cy : Nat → ClassId} {ad : Nat → Nat} (X : CX p s m args meth c cX1_isAbove RX1 20 (some .boolean) D shX cy ad (aw shX ad)) {cf co : Nat} (hcf : FRc cf) (hco : FRc co) {F : Nat} {k89 : St → Int → Int → Option (Int × St)} {k152 : St → Int → Int → Int → Option (Int × St)} {q : Int × St} (hk89 : ∀ sg x10 z0, k89 sg x10 z0 = some q → GG p l e rm_Frac_isAbove s m args below meth c (QI D shX cy ad below args s q) D shX cy ad (aw shX ad) 20 89 [(10, mI x10)] [mI z0] sg) (hk152 : ∀ sg x4 x8 x10, k152 sg x4 x8 x10 = some q → GG p l e rm_Frac_isAbove s m args below meth c (QI D shX cy ad below args s q) D shX cy ad (aw shX ad) 20 152 [(4, mL x4), (8, mL x8), (10, mI x10)] [] sg) : ∀ (n : Nat) (sg : St) (x2 x4 x6 x8 x10 x11 : Int), l_Frac_isAbove_29 cf co F k89 k152 n sg x2 x4 x6 x8 x10 x11 = some q → GG p l e rm_Frac_isAbove s m args below meth c (QI D shX cy ad below args s q) D shX cy ad (aw shX ad) 20 29 [(2, mL x2), (4, mL x4), (6, mL x6), (8, mL x8), (10, mI x10), (11, mI x11)] [] sg := by
  intro n
  induction n with
  | zero => intro sg x2 x4 x6 x8 x10 x11 h; cases h
  | succ n ih => exact fun sg x2 x4 x6 x8 x10 x11 h => b_Frac_isAbove_29_ok X hcf hco ih hk89 hk152 h
set_option maxRecDepth 100000 in
set_option maxHeartbeats 4000000 in
theorem b_Frac_isAbove_172_ok {p : Program} {l : Launch} {e : Env} {s : State} {m : MethodId} {args : Array Value} {below : List Frame} {meth : Method} {c : Code} {D : va_G} {cy : Nat → ClassId} {ad : Nat → Nat} (X : CX p s m args meth c cX1_isAbove RX1 20 (some .boolean) D shX cy ad (aw shX ad)) {cf co : Nat} (hcf : FRc cf) (hco : FRc co) {F : Nat} {q : Int × St} {sg : St} {x10 z0 : Int} (hf : b_Frac_isAbove_172 cf co F  sg x10 z0 = some q) : GG p l e rm_Frac_isAbove s m args below meth c (QI D shX cy ad below args s q) D shX cy ad (aw shX ad) 20 172 [(10, mI x10)] [mI z0] sg := by
  refine r_iload X 0 dX1_isAbove_172 rfl ?_
  refine r_icmp_eq (tgt := 181) X dX1_isAbove_174 (by decide) (fun hc1 => ?_) (fun hc1 => ?_)
  · have hf := ite_yes hc1 hf
    refine r_iconst X dX1_isAbove_181 ?_
    exact r_zreturn X hf rfl dX1_isAbove_182
  · have hf := ite_no hc1 hf
    refine r_iconst X dX1_isAbove_177 ?_
    refine r_goto (tgt := 182) X dX1_isAbove_178 (by decide) ?_
    exact r_zreturn X hf rfl dX1_isAbove_182
set_option maxRecDepth 100000 in
set_option maxHeartbeats 4000000 in
theorem b_Frac_isAbove_152_ok {p : Program} {l : Launch} {e : Env} {s : State} {m : MethodId} {args : Array Value} {below : List Frame} {meth : Method} {c : Code} {D : va_G} {cy : Nat → ClassId} {ad : Nat → Nat} (X : CX p s m args meth c cX1_isAbove RX1 20 (some .boolean) D shX cy ad (aw shX ad)) {cf co : Nat} (hcf : FRc cf) (hco : FRc co) {F : Nat} {q : Int × St} {sg : St} {x4 x8 x10 : Int} (hf : b_Frac_isAbove_152 cf co F  sg x4 x8 x10 = some q) : GG p l e rm_Frac_isAbove s m args below meth c (QI D shX cy ad below args s q) D shX cy ad (aw shX ad) 20 152 [(4, mL x4), (8, mL x8), (10, mI x10)] [] sg := by
  refine r_lload X 0 dX1_isAbove_152 rfl ?_
  refine r_lload X 1 dX1_isAbove_154 rfl ?_
  refine r_lc_eq (tgt := 181) X dX1_isAbove_156 dX1_isAbove_157 (by decide) (fun hc1 => ?_) (fun hc1 => ?_)
  · have hf := ite_yes hc1 hf
    refine r_iconst X dX1_isAbove_181 ?_
    exact r_zreturn X hf rfl dX1_isAbove_182
  · have hf := ite_no hc1 hf
    refine r_lload X 0 dX1_isAbove_160 rfl ?_
    refine r_lconst (v := 0) X dX1_isAbove_162 (by decide) ?_
    refine r_lc_ne (tgt := 171) X dX1_isAbove_163 dX1_isAbove_164 (by decide) (fun hc2 => ?_) (fun hc2 => ?_)
    · have hf := ite_yes hc2 hf
      refine r_iconst X dX1_isAbove_167 ?_
      refine r_goto (tgt := 172) X dX1_isAbove_168 (by decide) ?_
      refine r_perm (lv2 := [(10, mI x10)]) [2] rfl ?_
      exact b_Frac_isAbove_172_ok X hcf hco  hf
    · have hf := ite_no hc2 hf
      refine r_iconst X dX1_isAbove_171 ?_
      refine r_perm (lv2 := [(10, mI x10)]) [2] rfl ?_
      exact b_Frac_isAbove_172_ok X hcf hco  hf
set_option maxRecDepth 100000 in
set_option maxHeartbeats 4000000 in
theorem b_Frac_isAbove_89_ok {p : Program} {l : Launch} {e : Env} {s : State} {m : MethodId} {args : Array Value} {below : List Frame} {meth : Method} {c : Code} {D : va_G} {cy : Nat → ClassId} {ad : Nat → Nat} (X : CX p s m args meth c cX1_isAbove RX1 20 (some .boolean) D shX cy ad (aw shX ad)) {cf co : Nat} (hcf : FRc cf) (hco : FRc co) {F : Nat} {q : Int × St} {sg : St} {x10 z0 : Int} (hf : b_Frac_isAbove_89 cf co F  sg x10 z0 = some q) : GG p l e rm_Frac_isAbove s m args below meth c (QI D shX cy ad below args s q) D shX cy ad (aw shX ad) 20 89 [(10, mI x10)] [mI z0] sg := by
  refine r_iload X 0 dX1_isAbove_89 rfl ?_
  refine r_icmp_eq (tgt := 98) X dX1_isAbove_91 (by decide) (fun hc1 => ?_) (fun hc1 => ?_)
  · have hf := ite_yes hc1 hf
    refine r_iconst X dX1_isAbove_98 ?_
    exact r_zreturn X hf rfl dX1_isAbove_99
  · have hf := ite_no hc1 hf
    refine r_iconst X dX1_isAbove_94 ?_
    refine r_goto (tgt := 99) X dX1_isAbove_95 (by decide) ?_
    exact r_zreturn X hf rfl dX1_isAbove_99
set_option maxRecDepth 100000 in
set_option maxHeartbeats 4000000 in
theorem c_Frac_isAbove {l : Launch} {F : Nat} {cf co : Nat} (hcf : FRc cf) (hco : FRc co) {sg : St} {q : Int × St} (hf : f_Frac_isAbove F cf co sg  = some q) : MI l shX yX1_isAbove cX1_isAbove 20 (some .boolean) rm_Frac_isAbove (fun ad => [.ref (ad cf), .ref (ad co)]) sg q.2 q.1 := by
  refine mk_i (by decide) (fun _ => Nat.le_of_ble_eq_true rfl) (fun p e s m args below meth c D cy ad X => ?_)
  have X : CX p s m args meth c cX1_isAbove RX1 20 (some .boolean) D shX cy ad (aw shX ad) := X
  refine r_perm (lv2 := [(0, .ref (ad cf)), (1, .ref (ad co))]) [0, 1] rfl ?_
  refine r_aload_n X 0 dX1_isAbove_0 rfl rfl ?_
  refine r_getL X fl_1_7 (fr_k0 hcf) dX1_isAbove_1 ?_
  refine r_lstore_n (lv2 := [(2, mL (sg cf 0)), (0, .ref (ad cf)), (1, .ref (ad co))]) X dX1_isAbove_4 rfl (by decide) rfl ?_
  refine r_aload_n X 1 dX1_isAbove_5 rfl rfl ?_
  refine r_getL X fl_1_13 (fr_k1 hcf) dX1_isAbove_6 ?_
  refine r_lstore (lv2 := [(4, mL (sg cf 1)), (2, mL (sg cf 0)), (0, .ref (ad cf)), (1, .ref (ad co))]) X dX1_isAbove_9 (by decide) rfl ?_
  refine r_aload_n X 3 dX1_isAbove_11 rfl rfl ?_
  refine r_getL X fl_1_7 (fr_k0 hco) dX1_isAbove_12 ?_
  refine r_lstore (lv2 := [(6, mL (sg co 0)), (4, mL (sg cf 1)), (2, mL (sg cf 0)), (0, .ref (ad cf)), (1, .ref (ad co))]) X dX1_isAbove_15 (by decide) rfl ?_
  refine r_aload_n X 4 dX1_isAbove_17 rfl rfl ?_
  refine r_getL X fl_1_13 (fr_k1 hco) dX1_isAbove_18 ?_
  refine r_lstore (lv2 := [(8, mL (sg co 1)), (6, mL (sg co 0)), (4, mL (sg cf 1)), (2, mL (sg cf 0)), (0, .ref (ad cf)), (1, .ref (ad co))]) X dX1_isAbove_21 (by decide) rfl ?_
  refine r_iconst X dX1_isAbove_23 ?_
  refine r_istore (lv2 := [(10, mI 0), (8, mL (sg co 1)), (6, mL (sg co 0)), (4, mL (sg cf 1)), (2, mL (sg cf 0)), (0, .ref (ad cf)), (1, .ref (ad co))]) X dX1_isAbove_24 (by decide) rfl ?_
  refine r_iconst X dX1_isAbove_26 ?_
  refine r_istore (lv2 := [(11, mI 0), (10, mI 0), (8, mL (sg co 1)), (6, mL (sg co 0)), (4, mL (sg cf 1)), (2, mL (sg cf 0)), (0, .ref (ad cf)), (1, .ref (ad co))]) X dX1_isAbove_27 (by decide) rfl ?_
  refine r_perm (lv2 := [(2, mL (sg cf 0)), (4, mL (sg cf 1)), (6, mL (sg co 0)), (8, mL (sg co 1)), (10, mI 0), (11, mI 0)]) [5, 4, 3, 2, 1, 0] rfl ?_
  refine l_Frac_isAbove_29_ok X hcf hco ?_ ?_ F _ _ _ _ _ _ _ hf
  · intro s1 x10_2 z0_3 hf
    exact b_Frac_isAbove_89_ok X hcf hco  hf
  · intro s4 x4_5 x8_6 x10_7 hf
    exact b_Frac_isAbove_152_ok X hcf hco  hf
set_option maxRecDepth 100000 in
set_option maxHeartbeats 4000000 in
theorem b_Frac_commonDivisor_9_ok {p : Program} {l : Launch} {e : Env} {s : State} {m : MethodId} {args : Array Value} {below : List Frame} {meth : Method} {c : Code} {D : va_G} {cy : Nat → ClassId} {ad : Nat → Nat} (X : CX p s m args meth c cX1_commonDivisor RX1 11 (some .long) D shX cy ad (aw shX ad)) {F : Nat} {kc : St → Int → Int → Int → Option (Int × St)} {k45 : St → Int → Option (Int × St)} {q : Int × St} (hkc : ∀ sg x4 x6 x8, kc sg x4 x6 x8 = some q → GG p l e rm_Frac_commonDivisor s m args below meth c (QL D shX cy ad below args s q) D shX cy ad (aw shX ad) 11 9 [(4, mL x4), (6, mL x6), (8, mI x8)] [] sg) (hk45 : ∀ sg x4, k45 sg x4 = some q → GG p l e rm_Frac_commonDivisor s m args below meth c (QL D shX cy ad below args s q) D shX cy ad (aw shX ad) 11 45 [(4, mL x4)] [] sg) {sg : St} {x4 x6 x8 : Int} (hf : b_Frac_commonDivisor_9  F kc k45 sg x4 x6 x8 = some q) : GG p l e rm_Frac_commonDivisor s m args below meth c (QL D shX cy ad below args s q) D shX cy ad (aw shX ad) 11 9 [(4, mL x4), (6, mL x6), (8, mI x8)] [] sg := by
  refine r_iload X 2 dX1_commonDivisor_9 rfl ?_
  refine r_sipush X dX1_commonDivisor_11 (by decide) ?_
  refine r_icmp_ge (tgt := 45) X dX1_commonDivisor_14 (by decide) (fun hc1 => ?_) (fun hc1 => ?_)
  · have hf := ite_yes hc1 hf
    refine r_perm (lv2 := [(4, mL x4)]) [0] rfl ?_
    exact hk45 _ _ hf
  · have hf := ite_no hc1 hf
    refine r_lload X 1 dX1_commonDivisor_17 rfl ?_
    refine r_lconst (v := 0) X dX1_commonDivisor_19 (by decide) ?_
    refine r_lc_le (tgt := 45) X dX1_commonDivisor_20 dX1_commonDivisor_21 (by decide) (fun hc2 => ?_) (fun hc2 => ?_)
    · have hf := ite_yes hc2 hf
      refine r_perm (lv2 := [(4, mL x4)]) [0] rfl ?_
      exact hk45 _ _ hf
    · have hf := ite_no hc2 hf
      refine r_lload X 0 dX1_commonDivisor_24 rfl ?_
      refine r_lload X 1 dX1_commonDivisor_26 rfl ?_
      obtain ⟨hg3, hf⟩ := gd_some hf
      refine r_lrem X hg3 dX1_commonDivisor_28 ?_
      refine r_lstore (lv2 := [(9, mL (remL x4 x6)), (4, mL x4), (6, mL x6), (8, mI x8)]) X dX1_commonDivisor_29 (by decide) rfl ?_
      refine r_lload X 2 dX1_commonDivisor_31 rfl ?_
      refine r_lstore (lv2 := [(4, mL x6), (9, mL (remL x4 x6)), (6, mL x6), (8, mI x8)]) X dX1_commonDivisor_33 (by decide) rfl ?_
      refine r_lload X 1 dX1_commonDivisor_35 rfl ?_
      refine r_lstore (lv2 := [(6, mL (remL x4 x6)), (4, mL x6), (9, mL (remL x4 x6)), (8, mI x8)]) X dX1_commonDivisor_37 (by decide) rfl ?_
      refine r_iinc (lv2 := [(8, mI (x8 + 1)), (6, mL (remL x4 x6)), (4, mL x6), (9, mL (remL x4 x6))]) X 3 dX1_commonDivisor_39 rfl (by decide) rfl ?_
      refine r_goto (tgt := 9) X dX1_commonDivisor_42 (by decide) ?_
      refine r_perm (lv2 := [(4, mL x6), (6, mL (remL x4 x6)), (8, mI (x8 + 1))]) [2, 1, 0] rfl ?_
      exact hkc _ _ _ _ hf
set_option maxRecDepth 100000 in
set_option maxHeartbeats 4000000 in
theorem l_Frac_commonDivisor_9_ok {p : Program} {l : Launch} {e : Env} {s : State} {m : MethodId} {args : Array Value} {below : List Frame} {meth : Method} {c : Code} {D : va_G} {cy : Nat → ClassId} {ad : Nat → Nat} (X : CX p s m args meth c cX1_commonDivisor RX1 11 (some .long) D shX cy ad (aw shX ad)) {F : Nat} {k45 : St → Int → Option (Int × St)} {q : Int × St} (hk45 : ∀ sg x4, k45 sg x4 = some q → GG p l e rm_Frac_commonDivisor s m args below meth c (QL D shX cy ad below args s q) D shX cy ad (aw shX ad) 11 45 [(4, mL x4)] [] sg) : ∀ (n : Nat) (sg : St) (x4 x6 x8 : Int), l_Frac_commonDivisor_9  F k45 n sg x4 x6 x8 = some q → GG p l e rm_Frac_commonDivisor s m args below meth c (QL D shX cy ad below args s q) D shX cy ad (aw shX ad) 11 9 [(4, mL x4), (6, mL x6), (8, mI x8)] [] sg := by
  intro n
  induction n with
  | zero => intro sg x4 x6 x8 h; cases h
  | succ n ih => exact fun sg x4 x6 x8 h => b_Frac_commonDivisor_9_ok X ih hk45 h
set_option maxRecDepth 100000 in
set_option maxHeartbeats 4000000 in
theorem c_Frac_commonDivisor {l : Launch} {F : Nat} {sg : St} {x0 x2 : Int} {q : Int × St} (hf : f_Frac_commonDivisor F  sg x0 x2 = some q) : ML l shX yX1_commonDivisor cX1_commonDivisor 11 (some .long) rm_Frac_commonDivisor (fun ad => [mL x0, mL x2]) sg q.2 q.1 := by
  refine mk_l (by decide) (fun _ => Nat.le_of_ble_eq_true rfl) (fun p e s m args below meth c D cy ad X => ?_)
  have X : CX p s m args meth c cX1_commonDivisor RX1 11 (some .long) D shX cy ad (aw shX ad) := X
  refine r_perm (lv2 := [(0, mL x0), (2, mL x2)]) [0, 1] rfl ?_
  refine r_lload_n X 0 dX1_commonDivisor_0 rfl rfl ?_
  refine r_lstore (lv2 := [(4, mL x0), (0, mL x0), (2, mL x2)]) X dX1_commonDivisor_1 (by decide) rfl ?_
  refine r_lload_n X 2 dX1_commonDivisor_3 rfl rfl ?_
  refine r_lstore (lv2 := [(6, mL x2), (4, mL x0), (0, mL x0), (2, mL x2)]) X dX1_commonDivisor_4 (by decide) rfl ?_
  refine r_iconst X dX1_commonDivisor_6 ?_
  refine r_istore (lv2 := [(8, mI 0), (6, mL x2), (4, mL x0), (0, mL x0), (2, mL x2)]) X dX1_commonDivisor_7 (by decide) rfl ?_
  refine r_perm (lv2 := [(4, mL x0), (6, mL x2), (8, mI 0)]) [2, 1, 0] rfl ?_
  refine l_Frac_commonDivisor_9_ok X ?_ F _ _ _ _ hf
  · intro s1 x4_2 hf
    refine r_lload X 0 dX1_commonDivisor_45 rfl ?_
    exact r_lreturn X hf dX1_commonDivisor_47
set_option maxRecDepth 100000 in
set_option maxHeartbeats 4000000 in
theorem b_Giver_insert_5_ok {p : Program} {l : Launch} {e : Env} {s : State} {m : MethodId} {args : Array Value} {below : List Frame} {meth : Method} {c : Code} {D : va_G} {cy : Nat → ClassId} {ad : Nat → Nat} (X : CX p s m args meth c cX2_insert RX2 3 none D shX cy ad (aw shX ad)) {F : Nat} {kc : St → Int → Int → Option (St)} {k54 : St → Int → Int → Option (St)} {q : St} (hkc : ∀ sg x1 x2, kc sg x1 x2 = some q → GG p l e rm_Giver_insert s m args below meth c (QV D shX cy ad below args s q) D shX cy ad (aw shX ad) 3 5 [(0, .ref (ad 43)), (1, mI x1), (2, mI x2)] [] sg) (hk54 : ∀ sg x1 x2, k54 sg x1 x2 = some q → GG p l e rm_Giver_insert s m args below meth c (QV D shX cy ad below args s q) D shX cy ad (aw shX ad) 3 54 [(0, .ref (ad 43)), (1, mI x1), (2, mI x2)] [] sg) {sg : St} {x1 x2 : Int} (hf : b_Giver_insert_5  F kc k54 sg x1 x2 = some q) : GG p l e rm_Giver_insert s m args below meth c (QV D shX cy ad below args s q) D shX cy ad (aw shX ad) 3 5 [(0, .ref (ad 43)), (1, mI x1), (2, mI x2)] [] sg := by
  refine r_iload_n X 2 dX2_insert_5 rfl rfl ?_
  refine r_if_le (tgt := 54) X dX2_insert_6 (by decide) (fun hc1 => ?_) (fun hc1 => ?_)
  · have hf := ite_yes hc1 hf
    exact hk54 _ _ _ hf
  · have hf := ite_no hc1 hf
    refine r_aload_n X 0 dX2_insert_9 rfl rfl ?_
    refine r_getR X fl_2_17 k_X_43_2 dX2_insert_10 ?_
    refine r_iload_n X 1 dX2_insert_13 rfl rfl ?_
    obtain ⟨hg2, hf⟩ := gd_some hf
    refine r_aaldF X gi_r hg2 dX2_insert_14 ?_
    refine r_aload_n X 0 dX2_insert_15 rfl rfl ?_
    refine r_getR X fl_2_17 k_X_43_2 dX2_insert_16 ?_
    refine r_aload_n X 0 dX2_insert_19 rfl rfl ?_
    refine r_getR X fl_2_21 k_X_43_4 dX2_insert_20 ?_
    refine r_iload_n X 2 dX2_insert_23 rfl rfl ?_
    refine r_iconst X dX2_insert_24 ?_
    refine r_isub X dX2_insert_25 ?_
    obtain ⟨hg3, hf⟩ := gd_some hf
    refine r_iald X a_X_46 hg3 dX2_insert_26 ?_
    obtain ⟨hg4, hf⟩ := gd_some hf
    refine r_aaldF X gi_r hg4 dX2_insert_27 ?_
    obtain ⟨q5, hq5, hf⟩ := bd_some hf
    refine r_callVI X (As := [.ref (ad (48 + ix (sg 46 (ix (x2 - 1)))))]) (st := []) (as := fun ad => [.ref (ad (48 + ix x1)), .ref (ad (48 + ix (sg 46 (ix (x2 - 1)))))]) (c_Frac_isAbove (fr_i (inb_ix hg2)) (fr_i (inb_ix hg4)) hq5) rfl yw_X1_isAbove yv_X1_isAbove ml_RX2_68 (fr_o (fr_i (inb_ix hg2))) rfl rfl ⟨rfl, rfl⟩ ⟨Nat.le_of_ble_eq_true rfl, Nat.le_of_ble_eq_true rfl⟩ rfl rfl (Nat.le_of_ble_eq_true rfl) dX2_insert_28 ?_
    refine r_if_eq (tgt := 54) X dX2_insert_31 (by decide) (fun hc6 => ?_) (fun hc6 => ?_)
    · have hf := ite_yes hc6 hf
      exact hk54 _ _ _ hf
    · have hf := ite_no hc6 hf
      refine r_aload_n X 0 dX2_insert_34 rfl rfl ?_
      refine r_getR X fl_2_21 k_X_43_4 dX2_insert_35 ?_
      refine r_iload_n X 2 dX2_insert_38 rfl rfl ?_
      refine r_aload_n X 0 dX2_insert_39 rfl rfl ?_
      refine r_getR X fl_2_21 k_X_43_4 dX2_insert_40 ?_
      refine r_iload_n X 2 dX2_insert_43 rfl rfl ?_
      refine r_iconst X dX2_insert_44 ?_
      refine r_isub X dX2_insert_45 ?_
      obtain ⟨hg7, hf⟩ := gd_some hf
      refine r_iald X a_X_46 hg7 dX2_insert_46 ?_
      obtain ⟨hg8, hf⟩ := gd_some hf
      refine r_iast X a_X_46 hg8 dX2_insert_47 ?_
      refine r_iinc (lv2 := [(2, mI (x2 + (-1))), (0, .ref (ad 43)), (1, mI x1)]) X 2 dX2_insert_48 rfl (by decide) rfl ?_
      refine r_goto (tgt := 5) X dX2_insert_51 (by decide) ?_
      refine r_perm (lv2 := [(0, .ref (ad 43)), (1, mI x1), (2, mI (x2 + (-1)))]) [1, 2, 0] rfl ?_
      exact hkc _ _ _ hf
set_option maxRecDepth 100000 in
set_option maxHeartbeats 4000000 in
theorem l_Giver_insert_5_ok {p : Program} {l : Launch} {e : Env} {s : State} {m : MethodId} {args : Array Value} {below : List Frame} {meth : Method} {c : Code} {D : va_G} {cy : Nat → ClassId} {ad : Nat → Nat} (X : CX p s m args meth c cX2_insert RX2 3 none D shX cy ad (aw shX ad)) {F : Nat} {k54 : St → Int → Int → Option (St)} {q : St} (hk54 : ∀ sg x1 x2, k54 sg x1 x2 = some q → GG p l e rm_Giver_insert s m args below meth c (QV D shX cy ad below args s q) D shX cy ad (aw shX ad) 3 54 [(0, .ref (ad 43)), (1, mI x1), (2, mI x2)] [] sg) : ∀ (n : Nat) (sg : St) (x1 x2 : Int), l_Giver_insert_5  F k54 n sg x1 x2 = some q → GG p l e rm_Giver_insert s m args below meth c (QV D shX cy ad below args s q) D shX cy ad (aw shX ad) 3 5 [(0, .ref (ad 43)), (1, mI x1), (2, mI x2)] [] sg := by
  intro n
  induction n with
  | zero => intro sg x1 x2 h; cases h
  | succ n ih => exact fun sg x1 x2 h => b_Giver_insert_5_ok X ih hk54 h
set_option maxRecDepth 100000 in
set_option maxHeartbeats 4000000 in
theorem b_Giver_insert_54_ok {p : Program} {l : Launch} {e : Env} {s : State} {m : MethodId} {args : Array Value} {below : List Frame} {meth : Method} {c : Code} {D : va_G} {cy : Nat → ClassId} {ad : Nat → Nat} (X : CX p s m args meth c cX2_insert RX2 3 none D shX cy ad (aw shX ad)) {F : Nat} {q : St} {sg : St} {x1 x2 : Int} (hf : b_Giver_insert_54  F  sg x1 x2 = some q) : GG p l e rm_Giver_insert s m args below meth c (QV D shX cy ad below args s q) D shX cy ad (aw shX ad) 3 54 [(0, .ref (ad 43)), (1, mI x1), (2, mI x2)] [] sg := by
  refine r_aload_n X 0 dX2_insert_54 rfl rfl ?_
  refine r_getR X fl_2_21 k_X_43_4 dX2_insert_55 ?_
  refine r_iload_n X 2 dX2_insert_58 rfl rfl ?_
  refine r_iload_n X 1 dX2_insert_59 rfl rfl ?_
  obtain ⟨hg1, hf⟩ := gd_some hf
  refine r_iast X a_X_46 hg1 dX2_insert_60 ?_
  refine r_aload_n X 0 dX2_insert_61 rfl rfl ?_
  refine r_dup X dX2_insert_62 rfl ?_
  refine r_getI X fl_2_29 k_X_43_3 dX2_insert_63 ?_
  refine r_iconst X dX2_insert_66 ?_
  refine r_iadd X dX2_insert_67 ?_
  refine r_putI X fp_2_29 k_X_43_3 rfl rfl dX2_insert_68 ?_
  exact r_vreturn X hf dX2_insert_71
set_option maxRecDepth 100000 in
set_option maxHeartbeats 4000000 in
theorem c_Giver_insert {l : Launch} {F : Nat} {sg : St} {x1 : Int} {q : St} (hf : f_Giver_insert F  sg x1 = some q) : MV l shX yX2_insert cX2_insert 3 none rm_Giver_insert (fun ad => [.ref (ad 43), mI x1]) sg q := by
  refine mk_v (by decide) (fun _ => Nat.le_of_ble_eq_true rfl) (fun p e s m args below meth c D cy ad X => ?_)
  have X : CX p s m args meth c cX2_insert RX2 3 none D shX cy ad (aw shX ad) := X
  refine r_perm (lv2 := [(0, .ref (ad 43)), (1, mI x1)]) [0, 1] rfl ?_
  refine r_aload_n X 0 dX2_insert_0 rfl rfl ?_
  refine r_getI X fl_2_29 k_X_43_3 dX2_insert_1 ?_
  refine r_istore_n (lv2 := [(2, mI (sg 43 3)), (0, .ref (ad 43)), (1, mI x1)]) X dX2_insert_4 rfl (by decide) rfl ?_
  refine r_perm (lv2 := [(0, .ref (ad 43)), (1, mI x1), (2, mI (sg 43 3))]) [1, 2, 0] rfl ?_
  refine l_Giver_insert_5_ok X ?_ F _ _ _ hf
  · intro s1 x1_2 x2_3 hf
    exact b_Giver_insert_54_ok X  hf
set_option maxRecDepth 100000 in
set_option maxHeartbeats 4000000 in
theorem c_Halls_add {l : Launch} {sg : St} {x1 x2 x3 : Int} {q : Int × St} (hf : f_Halls_add  sg x1 x2 x3 = some q) : MI l shX yX3_add cX3_add 5 (some .int) rm_Halls_add (fun ad => [.ref (ad 72), mI x1, mI x2, mI x3]) sg q.2 q.1 := by
  refine mk_i (by decide) (fun _ => Nat.le_of_ble_eq_true rfl) (fun p e s m args below meth c D cy ad X => ?_)
  have X : CX p s m args meth c cX3_add RX3 5 (some .int) D shX cy ad (aw shX ad) := X
  refine r_perm (lv2 := [(0, .ref (ad 72)), (1, mI x1), (2, mI x2), (3, mI x3)]) [0, 1, 2, 3] rfl ?_
  refine r_aload_n X 0 dX3_add_0 rfl rfl ?_
  refine r_getI X fl_3_37 k_X_72_0 dX3_add_1 ?_
  refine r_istore (lv2 := [(4, mI (sg 72 0)), (0, .ref (ad 72)), (1, mI x1), (2, mI x2), (3, mI x3)]) X dX3_add_4 (by decide) rfl ?_
  refine r_aload_n X 1 dX3_add_6 rfl rfl ?_
  refine r_getR X fl_3_15 k_X_72_3 dX3_add_7 ?_
  refine r_iload X 0 dX3_add_10 rfl ?_
  refine r_iload_n X 2 dX3_add_12 rfl rfl ?_
  obtain ⟨hg1, hf⟩ := gd_some hf
  refine r_iast X a_X_74 hg1 dX3_add_13 ?_
  refine r_aload_n X 1 dX3_add_14 rfl rfl ?_
  refine r_getR X fl_3_18 k_X_72_4 dX3_add_15 ?_
  refine r_iload X 0 dX3_add_18 rfl ?_
  refine r_iload_n X 3 dX3_add_20 rfl rfl ?_
  obtain ⟨hg3, hf⟩ := gd_some hf
  refine r_iast X a_X_75 hg3 dX3_add_21 ?_
  refine r_aload_n X 1 dX3_add_22 rfl rfl ?_
  refine r_getR X fl_3_21 k_X_72_5 dX3_add_23 ?_
  refine r_iload X 0 dX3_add_26 rfl ?_
  refine r_iload_n X 4 dX3_add_28 rfl rfl ?_
  obtain ⟨hg5, hf⟩ := gd_some hf
  refine r_iast X a_X_76 hg5 dX3_add_29 ?_
  refine r_aload_n X 1 dX3_add_30 rfl rfl ?_
  refine r_dup X dX3_add_31 rfl ?_
  refine r_getI X fl_3_37 k_X_72_0 dX3_add_32 ?_
  refine r_iconst X dX3_add_35 ?_
  refine r_iadd X dX3_add_36 ?_
  refine r_putI X fp_3_37 k_X_72_0 rfl rfl dX3_add_37 ?_
  refine r_aload_n X 1 dX3_add_40 rfl rfl ?_
  refine r_iconst X dX3_add_41 ?_
  refine r_putI X fp_3_33 k_X_72_9 rfl rfl dX3_add_42 ?_
  refine r_iload X 0 dX3_add_45 rfl ?_
  exact r_ireturn X hf dX3_add_47
set_option maxRecDepth 100000 in
set_option maxHeartbeats 4000000 in
theorem c_Halls_removeAll {l : Launch} {sg : St} {q : St} (hf : f_Halls_removeAll  sg  = some q) : MV l shX yX3_removeAll cX3_removeAll 1 none rm_Halls_removeAll (fun ad => [.ref (ad 72)]) sg q := by
  refine mk_v (by decide) (fun _ => Nat.le_of_ble_eq_true rfl) (fun p e s m args below meth c D cy ad X => ?_)
  have X : CX p s m args meth c cX3_removeAll RX3 1 none D shX cy ad (aw shX ad) := X
  refine r_perm (lv2 := [(0, .ref (ad 72))]) [0] rfl ?_
  refine r_aload_n X 0 dX3_removeAll_0 rfl rfl ?_
  refine r_iconst X dX3_removeAll_1 ?_
  refine r_putI X fp_3_37 k_X_72_0 rfl rfl dX3_removeAll_2 ?_
  refine r_aload_n X 0 dX3_removeAll_5 rfl rfl ?_
  refine r_iconst X dX3_removeAll_6 ?_
  refine r_putI X fp_3_33 k_X_72_9 rfl rfl dX3_removeAll_7 ?_
  exact r_vreturn X hf dX3_removeAll_10
set_option maxRecDepth 100000 in
set_option maxHeartbeats 4000000 in
theorem b_Halls_emptyAll_14_ok {p : Program} {l : Launch} {e : Env} {s : State} {m : MethodId} {args : Array Value} {below : List Frame} {meth : Method} {c : Code} {D : va_G} {cy : Nat → ClassId} {ad : Nat → Nat} (X : CX p s m args meth c cX3_emptyAll RX3 2 none D shX cy ad (aw shX ad)) {F : Nat} {kc : St → Int → Option (St)} {k64 : St → Option (St)} {q : St} (hkc : ∀ sg x1, kc sg x1 = some q → GG p l e rm_Halls_emptyAll s m args below meth c (QV D shX cy ad below args s q) D shX cy ad (aw shX ad) 2 14 [(0, .ref (ad 72)), (1, mI x1)] [] sg) (hk64 : ∀ sg , k64 sg  = some q → GG p l e rm_Halls_emptyAll s m args below meth c (QV D shX cy ad below args s q) D shX cy ad (aw shX ad) 2 64 [] [] sg) {sg : St} {x1 : Int} (hf : b_Halls_emptyAll_14  F kc k64 sg x1 = some q) : GG p l e rm_Halls_emptyAll s m args below meth c (QV D shX cy ad below args s q) D shX cy ad (aw shX ad) 2 14 [(0, .ref (ad 72)), (1, mI x1)] [] sg := by
  refine r_iload_n X 1 dX3_emptyAll_14 rfl rfl ?_
  refine r_aload_n X 0 dX3_emptyAll_15 rfl rfl ?_
  refine r_getI X fl_3_37 k_X_72_0 dX3_emptyAll_16 ?_
  refine r_icmp_ge (tgt := 64) X dX3_emptyAll_19 (by decide) (fun hc1 => ?_) (fun hc1 => ?_)
  · have hf := ite_yes hc1 hf
    refine r_perm (lv2 := []) [] rfl ?_
    exact hk64 _ hf
  · have hf := ite_no hc1 hf
    refine r_aload_n X 0 dX3_emptyAll_22 rfl rfl ?_
    refine r_getR X fl_3_24 k_X_72_6 dX3_emptyAll_23 ?_
    refine r_iload_n X 1 dX3_emptyAll_26 rfl rfl ?_
    refine r_aload_n X 0 dX3_emptyAll_27 rfl rfl ?_
    refine r_getR X fl_3_15 k_X_72_3 dX3_emptyAll_28 ?_
    refine r_iload_n X 1 dX3_emptyAll_31 rfl rfl ?_
    obtain ⟨hg2, hf⟩ := gd_some hf
    refine r_iald X a_X_74 hg2 dX3_emptyAll_32 ?_
    obtain ⟨hg3, hf⟩ := gd_some hf
    refine r_iast X a_X_77 hg3 dX3_emptyAll_33 ?_
    refine r_aload_n X 0 dX3_emptyAll_34 rfl rfl ?_
    refine r_getR X fl_3_27 k_X_72_7 dX3_emptyAll_35 ?_
    refine r_iload_n X 1 dX3_emptyAll_38 rfl rfl ?_
    refine r_aload_n X 0 dX3_emptyAll_39 rfl rfl ?_
    refine r_getR X fl_3_18 k_X_72_4 dX3_emptyAll_40 ?_
    refine r_iload_n X 1 dX3_emptyAll_43 rfl rfl ?_
    obtain ⟨hg5, hf⟩ := gd_some hf
    refine r_iald X a_X_75 hg5 dX3_emptyAll_44 ?_
    obtain ⟨hg6, hf⟩ := gd_some hf
    refine r_iast X a_X_78 hg6 dX3_emptyAll_45 ?_
    refine r_aload_n X 0 dX3_emptyAll_46 rfl rfl ?_
    refine r_getR X fl_3_30 k_X_72_8 dX3_emptyAll_47 ?_
    refine r_iload_n X 1 dX3_emptyAll_50 rfl rfl ?_
    refine r_aload_n X 0 dX3_emptyAll_51 rfl rfl ?_
    refine r_getR X fl_3_21 k_X_72_5 dX3_emptyAll_52 ?_
    refine r_iload_n X 1 dX3_emptyAll_55 rfl rfl ?_
    obtain ⟨hg8, hf⟩ := gd_some hf
    refine r_iald X a_X_76 hg8 dX3_emptyAll_56 ?_
    obtain ⟨hg9, hf⟩ := gd_some hf
    refine r_iast X a_X_79 hg9 dX3_emptyAll_57 ?_
    refine r_iinc (lv2 := [(1, mI (x1 + 1)), (0, .ref (ad 72))]) X 1 dX3_emptyAll_58 rfl (by decide) rfl ?_
    refine r_goto (tgt := 14) X dX3_emptyAll_61 (by decide) ?_
    refine r_perm (lv2 := [(0, .ref (ad 72)), (1, mI (x1 + 1))]) [1, 0] rfl ?_
    exact hkc _ _ hf
set_option maxRecDepth 100000 in
set_option maxHeartbeats 4000000 in
theorem l_Halls_emptyAll_14_ok {p : Program} {l : Launch} {e : Env} {s : State} {m : MethodId} {args : Array Value} {below : List Frame} {meth : Method} {c : Code} {D : va_G} {cy : Nat → ClassId} {ad : Nat → Nat} (X : CX p s m args meth c cX3_emptyAll RX3 2 none D shX cy ad (aw shX ad)) {F : Nat} {k64 : St → Option (St)} {q : St} (hk64 : ∀ sg , k64 sg  = some q → GG p l e rm_Halls_emptyAll s m args below meth c (QV D shX cy ad below args s q) D shX cy ad (aw shX ad) 2 64 [] [] sg) : ∀ (n : Nat) (sg : St) (x1 : Int), l_Halls_emptyAll_14  F k64 n sg x1 = some q → GG p l e rm_Halls_emptyAll s m args below meth c (QV D shX cy ad below args s q) D shX cy ad (aw shX ad) 2 14 [(0, .ref (ad 72)), (1, mI x1)] [] sg := by
  intro n
  induction n with
  | zero => intro sg x1 h; cases h
  | succ n ih => exact fun sg x1 h => b_Halls_emptyAll_14_ok X ih hk64 h
set_option maxRecDepth 100000 in
set_option maxHeartbeats 4000000 in
theorem c_Halls_emptyAll {l : Launch} {F : Nat} {sg : St} {q : St} (hf : f_Halls_emptyAll F  sg  = some q) : MV l shX yX3_emptyAll cX3_emptyAll 2 none rm_Halls_emptyAll (fun ad => [.ref (ad 72)]) sg q := by
  refine mk_v (by decide) (fun _ => Nat.le_of_ble_eq_true rfl) (fun p e s m args below meth c D cy ad X => ?_)
  have X : CX p s m args meth c cX3_emptyAll RX3 2 none D shX cy ad (aw shX ad) := X
  refine r_perm (lv2 := [(0, .ref (ad 72))]) [0] rfl ?_
  refine r_aload_n X 0 dX3_emptyAll_0 rfl rfl ?_
  refine r_iconst X dX3_emptyAll_1 ?_
  refine r_putI X fp_3_53 k_X_72_1 rfl rfl dX3_emptyAll_2 ?_
  refine r_aload_n X 0 dX3_emptyAll_5 rfl rfl ?_
  refine r_getR X fl_3_11 k_X_72_2 dX3_emptyAll_6 ?_
  refine r_iconst X dX3_emptyAll_9 ?_
  refine r_iconst X dX3_emptyAll_10 ?_
  obtain ⟨hg2, hf⟩ := gd_some hf
  refine r_iast X a_X_73 hg2 dX3_emptyAll_11 ?_
  refine r_iconst X dX3_emptyAll_12 ?_
  refine r_istore_n (lv2 := [(1, mI 0), (0, .ref (ad 72))]) X dX3_emptyAll_13 rfl (by decide) rfl ?_
  refine r_perm (lv2 := [(0, .ref (ad 72)), (1, mI 0)]) [1, 0] rfl ?_
  refine l_Halls_emptyAll_14_ok X ?_ F _ _ hf
  · intro s4  hf
    exact r_vreturn X hf dX3_emptyAll_64
set_option maxRecDepth 100000 in
set_option maxHeartbeats 4000000 in
theorem c_Halls_move {l : Launch} {sg : St} {x2 x3 : Int} {q : St} (hf : f_Halls_move  sg x2 x3 = some q) : MV l shX yX3_move cX3_move 5 none rm_Halls_move (fun ad => [.ref (ad 72), .ref (ad 1), mI x2, mI x3]) sg q := by
  refine mk_v (by decide) (fun _ => Nat.le_of_ble_eq_true rfl) (fun p e s m args below meth c D cy ad X => ?_)
  have X : CX p s m args meth c cX3_move RX3 5 none D shX cy ad (aw shX ad) := X
  refine r_perm (lv2 := [(0, .ref (ad 72)), (1, .ref (ad 1)), (2, mI x2), (3, mI x3)]) [0, 1, 2, 3] rfl ?_
  refine r_aload_n X 0 dX3_move_0 rfl rfl ?_
  refine r_getR X fl_3_11 k_X_72_2 dX3_move_1 ?_
  refine r_iload_n X 2 dX3_move_4 rfl rfl ?_
  obtain ⟨hg1, hf⟩ := gd_some hf
  refine r_iald X a_X_73 hg1 dX3_move_5 ?_
  refine r_istore (lv2 := [(4, mI (sg 73 (ix x2))), (0, .ref (ad 72)), (1, .ref (ad 1)), (2, mI x2), (3, mI x3)]) X dX3_move_6 (by decide) rfl ?_
  refine r_aload_n X 1 dX3_move_8 rfl rfl ?_
  refine r_getR X fl_3_24 k_X_72_6 dX3_move_9 ?_
  refine r_iload X 0 dX3_move_12 rfl ?_
  refine r_dup2 X dX3_move_14 rfl rfl ?_
  obtain ⟨hg2, hf⟩ := gd_some hf
  refine r_iald X a_X_77 hg2 dX3_move_15 ?_
  refine r_iload_n X 4 dX3_move_16 rfl rfl ?_
  refine r_iadd X dX3_move_17 ?_
  obtain ⟨hg3, hf⟩ := gd_some hf
  refine r_iast X a_X_77 hg3 dX3_move_18 ?_
  refine r_aload_n X 1 dX3_move_19 rfl rfl ?_
  refine r_getR X fl_3_27 k_X_72_7 dX3_move_20 ?_
  refine r_iload X 0 dX3_move_23 rfl ?_
  refine r_dup2 X dX3_move_25 rfl rfl ?_
  obtain ⟨hg5, hf⟩ := gd_some hf
  refine r_iald X a_X_78 hg5 dX3_move_26 ?_
  refine r_iload_n X 4 dX3_move_27 rfl rfl ?_
  refine r_aload_n X 2 dX3_move_28 rfl rfl ?_
  refine r_getR X fl_3_65 k_X_1_4 dX3_move_29 ?_
  refine r_iload_n X 3 dX3_move_32 rfl rfl ?_
  obtain ⟨hg6, hf⟩ := gd_some hf
  refine r_iald X a_X_5 hg6 dX3_move_33 ?_
  refine r_imul X dX3_move_34 ?_
  refine r_iadd X dX3_move_35 ?_
  obtain ⟨hg7, hf⟩ := gd_some hf
  refine r_iast X a_X_78 hg7 dX3_move_36 ?_
  refine r_aload_n X 1 dX3_move_37 rfl rfl ?_
  refine r_getR X fl_3_30 k_X_72_8 dX3_move_38 ?_
  refine r_iload X 0 dX3_move_41 rfl ?_
  refine r_dup2 X dX3_move_43 rfl rfl ?_
  obtain ⟨hg9, hf⟩ := gd_some hf
  refine r_iald X a_X_79 hg9 dX3_move_44 ?_
  refine r_iload_n X 4 dX3_move_45 rfl rfl ?_
  refine r_aload_n X 2 dX3_move_46 rfl rfl ?_
  refine r_getR X fl_3_66 k_X_1_5 dX3_move_47 ?_
  refine r_iload_n X 3 dX3_move_50 rfl rfl ?_
  obtain ⟨hg10, hf⟩ := gd_some hf
  refine r_iald X a_X_6 hg10 dX3_move_51 ?_
  refine r_imul X dX3_move_52 ?_
  refine r_iadd X dX3_move_53 ?_
  obtain ⟨hg11, hf⟩ := gd_some hf
  refine r_iast X a_X_79 hg11 dX3_move_54 ?_
  exact r_vreturn X hf dX3_move_55
set_option maxRecDepth 100000 in
set_option maxHeartbeats 4000000 in
theorem c_Judges_has {l : Launch} {sg : St} {x1 : Int} {q : Int × St} (hf : f_Judges_has  sg x1 = some q) : MI l shX yX4_has cX4_has 2 (some .boolean) rm_Judges_has (fun ad => [.ref (ad 7), mI x1]) sg q.2 q.1 := by
  refine mk_i (by decide) (fun _ => Nat.le_of_ble_eq_true rfl) (fun p e s m args below meth c D cy ad X => ?_)
  have X : CX p s m args meth c cX4_has RX4 2 (some .boolean) D shX cy ad (aw shX ad) := X
  refine r_perm (lv2 := [(0, .ref (ad 7)), (1, mI x1)]) [0, 1] rfl ?_
  refine r_iload_n X 1 dX4_has_0 rfl rfl ?_
  refine r_if_lt (tgt := 16) X dX4_has_1 (by decide) (fun hc1 => ?_) (fun hc1 => ?_)
  · have hf := ite_yes hc1 hf
    refine r_iconst X dX4_has_16 ?_
    exact r_zreturn X hf rfl dX4_has_17
  · have hf := ite_no hc1 hf
    refine r_iload_n X 1 dX4_has_4 rfl rfl ?_
    refine r_aload_n X 0 dX4_has_5 rfl rfl ?_
    refine r_getI X fl_4_21 k_X_7_0 dX4_has_6 ?_
    refine r_icmp_ge (tgt := 16) X dX4_has_9 (by decide) (fun hc2 => ?_) (fun hc2 => ?_)
    · have hf := ite_yes hc2 hf
      refine r_iconst X dX4_has_16 ?_
      exact r_zreturn X hf rfl dX4_has_17
    · have hf := ite_no hc2 hf
      refine r_iconst X dX4_has_12 ?_
      refine r_goto (tgt := 17) X dX4_has_13 (by decide) ?_
      exact r_zreturn X hf rfl dX4_has_17
set_option maxRecDepth 100000 in
set_option maxHeartbeats 4000000 in
theorem c_Judges_add {l : Launch} {sg : St} {x1 x2 x3 : Int} {q : Int × St} (hf : f_Judges_add  sg x1 x2 x3 = some q) : MI l shX yX4_add cX4_add 5 (some .int) rm_Judges_add (fun ad => [.ref (ad 7), mI x1, mI x2, mI x3]) sg q.2 q.1 := by
  refine mk_i (by decide) (fun _ => Nat.le_of_ble_eq_true rfl) (fun p e s m args below meth c D cy ad X => ?_)
  have X : CX p s m args meth c cX4_add RX4 5 (some .int) D shX cy ad (aw shX ad) := X
  refine r_perm (lv2 := [(0, .ref (ad 7)), (1, mI x1), (2, mI x2), (3, mI x3)]) [0, 1, 2, 3] rfl ?_
  refine r_aload_n X 0 dX4_add_0 rfl rfl ?_
  refine r_getI X fl_4_21 k_X_7_0 dX4_add_1 ?_
  refine r_istore (lv2 := [(4, mI (sg 7 0)), (0, .ref (ad 7)), (1, mI x1), (2, mI x2), (3, mI x3)]) X dX4_add_4 (by decide) rfl ?_
  refine r_aload_n X 1 dX4_add_6 rfl rfl ?_
  refine r_getR X fl_4_9 k_X_7_1 dX4_add_7 ?_
  refine r_iload X 0 dX4_add_10 rfl ?_
  refine r_iload_n X 2 dX4_add_12 rfl rfl ?_
  obtain ⟨hg1, hf⟩ := gd_some hf
  refine r_iast X a_X_8 hg1 dX4_add_13 ?_
  refine r_aload_n X 1 dX4_add_14 rfl rfl ?_
  refine r_getR X fl_4_15 k_X_7_2 dX4_add_15 ?_
  refine r_iload X 0 dX4_add_18 rfl ?_
  refine r_iload_n X 3 dX4_add_20 rfl rfl ?_
  obtain ⟨hg3, hf⟩ := gd_some hf
  refine r_iast X a_X_9 hg3 dX4_add_21 ?_
  refine r_aload_n X 1 dX4_add_22 rfl rfl ?_
  refine r_getR X fl_4_18 k_X_7_3 dX4_add_23 ?_
  refine r_iload X 0 dX4_add_26 rfl ?_
  refine r_iload_n X 4 dX4_add_28 rfl rfl ?_
  obtain ⟨hg5, hf⟩ := gd_some hf
  refine r_iast X a_X_10 hg5 dX4_add_29 ?_
  refine r_aload_n X 1 dX4_add_30 rfl rfl ?_
  refine r_dup X dX4_add_31 rfl ?_
  refine r_getI X fl_4_21 k_X_7_0 dX4_add_32 ?_
  refine r_iconst X dX4_add_35 ?_
  refine r_iadd X dX4_add_36 ?_
  refine r_putI X fp_4_21 k_X_7_0 rfl rfl dX4_add_37 ?_
  refine r_iload X 0 dX4_add_40 rfl ?_
  exact r_ireturn X hf dX4_add_42
set_option maxRecDepth 100000 in
set_option maxHeartbeats 4000000 in
theorem b_Judges_isAllowed_24_ok {p : Program} {l : Launch} {e : Env} {s : State} {m : MethodId} {args : Array Value} {below : List Frame} {meth : Method} {c : Code} {D : va_G} {cy : Nat → ClassId} {ad : Nat → Nat} (X : CX p s m args meth c cX4_isAllowed RX4 5 (some .boolean) D shX cy ad (aw shX ad)) {F : Nat} {q : Int × St} {sg : St} {x1 x3 z0 : Int} (hf : b_Judges_isAllowed_24  F  sg x1 x3 z0 = some q) : GG p l e rm_Judges_isAllowed s m args below meth c (QI D shX cy ad below args s q) D shX cy ad (aw shX ad) 5 24 [(0, .ref (ad 7)), (1, mI x1), (2, .ref (ad 1)), (3, mI x3)] [mI z0] sg := by
  refine r_istore (lv2 := [(4, mI z0), (0, .ref (ad 7)), (1, mI x1), (2, .ref (ad 1)), (3, mI x3)]) X dX4_isAllowed_24 (by decide) rfl ?_
  refine r_iload X 0 dX4_isAllowed_26 rfl ?_
  refine r_if_eq (tgt := 50) X dX4_isAllowed_28 (by decide) (fun hc1 => ?_) (fun hc1 => ?_)
  · have hf := ite_yes hc1 hf
    refine r_iconst X dX4_isAllowed_50 ?_
    exact r_zreturn X hf rfl dX4_isAllowed_51
  · have hf := ite_no hc1 hf
    refine r_aload_n X 1 dX4_isAllowed_31 rfl rfl ?_
    refine r_getR X fl_4_15 k_X_7_2 dX4_isAllowed_32 ?_
    refine r_iload_n X 2 dX4_isAllowed_35 rfl rfl ?_
    obtain ⟨hg2, hf⟩ := gd_some hf
    refine r_iald X a_X_9 hg2 dX4_isAllowed_36 ?_
    refine r_aload_n X 3 dX4_isAllowed_37 rfl rfl ?_
    refine r_getR X fl_4_30 k_X_1_3 dX4_isAllowed_38 ?_
    refine r_iload_n X 4 dX4_isAllowed_41 rfl rfl ?_
    obtain ⟨hg3, hf⟩ := gd_some hf
    refine r_iald X a_X_4 hg3 dX4_isAllowed_42 ?_
    refine r_icmp_eq (tgt := 50) X dX4_isAllowed_43 (by decide) (fun hc4 => ?_) (fun hc4 => ?_)
    · have hf := ite_yes hc4 hf
      refine r_iconst X dX4_isAllowed_50 ?_
      exact r_zreturn X hf rfl dX4_isAllowed_51
    · have hf := ite_no hc4 hf
      refine r_iconst X dX4_isAllowed_46 ?_
      refine r_goto (tgt := 51) X dX4_isAllowed_47 (by decide) ?_
      exact r_zreturn X hf rfl dX4_isAllowed_51
set_option maxRecDepth 100000 in
set_option maxHeartbeats 4000000 in
theorem c_Judges_isAllowed {l : Launch} {sg : St} {x1 x3 : Int} {q : Int × St} (hf : f_Judges_isAllowed  sg x1 x3 = some q) : MI l shX yX4_isAllowed cX4_isAllowed 5 (some .boolean) rm_Judges_isAllowed (fun ad => [.ref (ad 7), mI x1, .ref (ad 1), mI x3]) sg q.2 q.1 := by
  refine mk_i (by decide) (fun _ => Nat.le_of_ble_eq_true rfl) (fun p e s m args below meth c D cy ad X => ?_)
  have X : CX p s m args meth c cX4_isAllowed RX4 5 (some .boolean) D shX cy ad (aw shX ad) := X
  refine r_perm (lv2 := [(0, .ref (ad 7)), (1, mI x1), (2, .ref (ad 1)), (3, mI x3)]) [0, 1, 2, 3] rfl ?_
  refine r_aload_n X 0 dX4_isAllowed_0 rfl rfl ?_
  refine r_getR X fl_4_9 k_X_7_1 dX4_isAllowed_1 ?_
  refine r_iload_n X 1 dX4_isAllowed_4 rfl rfl ?_
  obtain ⟨hg1, hf⟩ := gd_some hf
  refine r_iald X a_X_8 hg1 dX4_isAllowed_5 ?_
  refine r_aload_n X 2 dX4_isAllowed_6 rfl rfl ?_
  refine r_getR X fl_4_25 k_X_1_1 dX4_isAllowed_7 ?_
  refine r_iload_n X 3 dX4_isAllowed_10 rfl rfl ?_
  obtain ⟨hg2, hf⟩ := gd_some hf
  refine r_iald X a_X_2 hg2 dX4_isAllowed_11 ?_
  refine r_ishr X dX4_isAllowed_12 ?_
  refine r_iconst X dX4_isAllowed_13 ?_
  refine r_iand X dX4_isAllowed_14 ?_
  refine r_iconst X dX4_isAllowed_15 ?_
  refine r_icmp_ne (tgt := 23) X dX4_isAllowed_16 (by decide) (fun hc3 => ?_) (fun hc3 => ?_)
  · have hf := ite_yes hc3 hf
    refine r_iconst X dX4_isAllowed_19 ?_
    refine r_goto (tgt := 24) X dX4_isAllowed_20 (by decide) ?_
    exact b_Judges_isAllowed_24_ok X  hf
  · have hf := ite_no hc3 hf
    refine r_iconst X dX4_isAllowed_23 ?_
    exact b_Judges_isAllowed_24_ok X  hf
set_option maxRecDepth 100000 in
set_option maxHeartbeats 4000000 in
theorem b_Judges_allowedFor_5_ok {p : Program} {l : Launch} {e : Env} {s : State} {m : MethodId} {args : Array Value} {below : List Frame} {meth : Method} {c : Code} {D : va_G} {cy : Nat → ClassId} {ad : Nat → Nat} (X : CX p s m args meth c cX4_allowedFor RX4 5 (some .int) D shX cy ad (aw shX ad)) {F : Nat} {kc : St → Int → Int → Int → Option (Int × St)} {k38 : St → Int → Option (Int × St)} {q : Int × St} (hkc : ∀ sg x2 x3 x4, kc sg x2 x3 x4 = some q → GG p l e rm_Judges_allowedFor s m args below meth c (QI D shX cy ad below args s q) D shX cy ad (aw shX ad) 5 5 [(0, .ref (ad 7)), (1, .ref (ad 1)), (2, mI x2), (3, mI x3), (4, mI x4)] [] sg) (hk38 : ∀ sg x3, k38 sg x3 = some q → GG p l e rm_Judges_allowedFor s m args below meth c (QI D shX cy ad below args s q) D shX cy ad (aw shX ad) 5 38 [(3, mI x3)] [] sg) {sg : St} {x2 x3 x4 : Int} (hf : b_Judges_allowedFor_5  F kc k38 sg x2 x3 x4 = some q) : GG p l e rm_Judges_allowedFor s m args below meth c (QI D shX cy ad below args s q) D shX cy ad (aw shX ad) 5 5 [(0, .ref (ad 7)), (1, .ref (ad 1)), (2, mI x2), (3, mI x3), (4, mI x4)] [] sg := by
  refine r_iload X 4 dX4_allowedFor_5 rfl ?_
  refine r_aload_n X 0 dX4_allowedFor_7 rfl rfl ?_
  refine r_getI X fl_4_21 k_X_7_0 dX4_allowedFor_8 ?_
  refine r_icmp_ge (tgt := 38) X dX4_allowedFor_11 (by decide) (fun hc1 => ?_) (fun hc1 => ?_)
  · have hf := ite_yes hc1 hf
    refine r_perm (lv2 := [(3, mI x3)]) [3] rfl ?_
    exact hk38 _ _ hf
  · have hf := ite_no hc1 hf
    refine r_aload_n X 0 dX4_allowedFor_14 rfl rfl ?_
    refine r_iload X 4 dX4_allowedFor_15 rfl ?_
    refine r_aload_n X 1 dX4_allowedFor_17 rfl rfl ?_
    refine r_iload_n X 2 dX4_allowedFor_18 rfl rfl ?_
    obtain ⟨q2, hq2, hf⟩ := bd_some hf
    refine r_callVI X (As := [mI x4, .ref (ad 1), mI x2]) (st := []) (as := fun ad => [.ref (ad 7), mI x4, .ref (ad 1), mI x2]) (c_Judges_isAllowed hq2) rfl yw_X4_isAllowed yv_X4_isAllowed ml_RX4_31 o_X_7 rfl rfl ⟨rfl, rfl⟩ ⟨Nat.le_of_ble_eq_true rfl, Nat.le_of_ble_eq_true rfl⟩ rfl rfl (Nat.le_of_ble_eq_true rfl) dX4_allowedFor_19 ?_
    refine r_if_eq (tgt := 32) X dX4_allowedFor_22 (by decide) (fun hc3 => ?_) (fun hc3 => ?_)
    · have hf := ite_yes hc3 hf
      refine r_iinc (lv2 := [(4, mI (x4 + 1)), (0, .ref (ad 7)), (1, .ref (ad 1)), (2, mI x2), (3, mI x3)]) X 4 dX4_allowedFor_32 rfl (by decide) rfl ?_
      refine r_goto (tgt := 5) X dX4_allowedFor_35 (by decide) ?_
      refine r_perm (lv2 := [(0, .ref (ad 7)), (1, .ref (ad 1)), (2, mI x2), (3, mI x3), (4, mI (x4 + 1))]) [1, 2, 3, 4, 0] rfl ?_
      exact hkc _ _ _ _ hf
    · have hf := ite_no hc3 hf
      refine r_iload_n X 3 dX4_allowedFor_25 rfl rfl ?_
      refine r_iconst X dX4_allowedFor_26 ?_
      refine r_iload X 4 dX4_allowedFor_27 rfl ?_
      refine r_ishl X dX4_allowedFor_29 ?_
      refine r_ior X dX4_allowedFor_30 ?_
      refine r_istore_n (lv2 := [(3, mI (orI x3 (shlI 1 x4))), (0, .ref (ad 7)), (1, .ref (ad 1)), (2, mI x2), (4, mI x4)]) X dX4_allowedFor_31 rfl (by decide) rfl ?_
      refine r_iinc (lv2 := [(4, mI (x4 + 1)), (3, mI (orI x3 (shlI 1 x4))), (0, .ref (ad 7)), (1, .ref (ad 1)), (2, mI x2)]) X 4 dX4_allowedFor_32 rfl (by decide) rfl ?_
      refine r_goto (tgt := 5) X dX4_allowedFor_35 (by decide) ?_
      refine r_perm (lv2 := [(0, .ref (ad 7)), (1, .ref (ad 1)), (2, mI x2), (3, mI (orI x3 (shlI 1 x4))), (4, mI (x4 + 1))]) [2, 3, 4, 1, 0] rfl ?_
      exact hkc _ _ _ _ hf
set_option maxRecDepth 100000 in
set_option maxHeartbeats 4000000 in
theorem l_Judges_allowedFor_5_ok {p : Program} {l : Launch} {e : Env} {s : State} {m : MethodId} {args : Array Value} {below : List Frame} {meth : Method} {c : Code} {D : va_G} {cy : Nat → ClassId} {ad : Nat → Nat} (X : CX p s m args meth c cX4_allowedFor RX4 5 (some .int) D shX cy ad (aw shX ad)) {F : Nat} {k38 : St → Int → Option (Int × St)} {q : Int × St} (hk38 : ∀ sg x3, k38 sg x3 = some q → GG p l e rm_Judges_allowedFor s m args below meth c (QI D shX cy ad below args s q) D shX cy ad (aw shX ad) 5 38 [(3, mI x3)] [] sg) : ∀ (n : Nat) (sg : St) (x2 x3 x4 : Int), l_Judges_allowedFor_5  F k38 n sg x2 x3 x4 = some q → GG p l e rm_Judges_allowedFor s m args below meth c (QI D shX cy ad below args s q) D shX cy ad (aw shX ad) 5 5 [(0, .ref (ad 7)), (1, .ref (ad 1)), (2, mI x2), (3, mI x3), (4, mI x4)] [] sg := by
  intro n
  induction n with
  | zero => intro sg x2 x3 x4 h; cases h
  | succ n ih => exact fun sg x2 x3 x4 h => b_Judges_allowedFor_5_ok X ih hk38 h
set_option maxRecDepth 100000 in
set_option maxHeartbeats 4000000 in
theorem c_Judges_allowedFor {l : Launch} {F : Nat} {sg : St} {x2 : Int} {q : Int × St} (hf : f_Judges_allowedFor F  sg x2 = some q) : MI l shX yX4_allowedFor cX4_allowedFor 5 (some .int) rm_Judges_allowedFor (fun ad => [.ref (ad 7), .ref (ad 1), mI x2]) sg q.2 q.1 := by
  refine mk_i (by decide) (fun _ => Nat.le_of_ble_eq_true rfl) (fun p e s m args below meth c D cy ad X => ?_)
  have X : CX p s m args meth c cX4_allowedFor RX4 5 (some .int) D shX cy ad (aw shX ad) := X
  refine r_perm (lv2 := [(0, .ref (ad 7)), (1, .ref (ad 1)), (2, mI x2)]) [0, 1, 2] rfl ?_
  refine r_iconst X dX4_allowedFor_0 ?_
  refine r_istore_n (lv2 := [(3, mI 0), (0, .ref (ad 7)), (1, .ref (ad 1)), (2, mI x2)]) X dX4_allowedFor_1 rfl (by decide) rfl ?_
  refine r_iconst X dX4_allowedFor_2 ?_
  refine r_istore (lv2 := [(4, mI 0), (3, mI 0), (0, .ref (ad 7)), (1, .ref (ad 1)), (2, mI x2)]) X dX4_allowedFor_3 (by decide) rfl ?_
  refine r_perm (lv2 := [(0, .ref (ad 7)), (1, .ref (ad 1)), (2, mI x2), (3, mI 0), (4, mI 0)]) [2, 3, 4, 1, 0] rfl ?_
  refine l_Judges_allowedFor_5_ok X ?_ F _ _ _ _ hf
  · intro s1 x3_2 hf
    refine r_iload_n X 0 dX4_allowedFor_38 rfl rfl ?_
    exact r_ireturn X hf dX4_allowedFor_39
set_option maxRecDepth 100000 in
set_option maxHeartbeats 4000000 in
theorem c_Known_pointsOf {l : Launch} {sg : St} {x1 x2 : Int} {q : Int × St} (hf : f_Known_pointsOf  sg x1 x2 = some q) : MI l shX yX5_pointsOf cX5_pointsOf 3 (some .int) rm_Known_pointsOf (fun ad => [.ref (ad 25), mI x1, mI x2]) sg q.2 q.1 := by
  refine mk_i (by decide) (fun _ => Nat.le_of_ble_eq_true rfl) (fun p e s m args below meth c D cy ad X => ?_)
  have X : CX p s m args meth c cX5_pointsOf RX5 3 (some .int) D shX cy ad (aw shX ad) := X
  refine r_perm (lv2 := [(0, .ref (ad 25)), (1, mI x1), (2, mI x2)]) [0, 1, 2] rfl ?_
  refine r_aload_n X 0 dX5_pointsOf_0 rfl rfl ?_
  refine r_getR X fl_5_15 k_X_25_1 dX5_pointsOf_1 ?_
  refine r_iload_n X 1 dX5_pointsOf_4 rfl rfl ?_
  refine r_bipush X dX5_pointsOf_5 (by decide) ?_
  refine r_imul X dX5_pointsOf_7 ?_
  refine r_iload_n X 2 dX5_pointsOf_8 rfl rfl ?_
  refine r_iadd X dX5_pointsOf_9 ?_
  obtain ⟨hg1, hf⟩ := gd_some hf
  refine r_iald X a_X_27 hg1 dX5_pointsOf_10 ?_
  exact r_ireturn X hf dX5_pointsOf_11
set_option maxRecDepth 100000 in
set_option maxHeartbeats 4000000 in
theorem b_Known_marksOf_4_ok {p : Program} {l : Launch} {e : Env} {s : State} {m : MethodId} {args : Array Value} {below : List Frame} {meth : Method} {c : Code} {D : va_G} {cy : Nat → ClassId} {ad : Nat → Nat} (X : CX p s m args meth c cX5_marksOf RX5 4 (some .int) D shX cy ad (aw shX ad)) {F : Nat} {kc : St → Int → Int → Int → Option (Int × St)} {k29 : St → Int → Option (Int × St)} {q : Int × St} (hkc : ∀ sg x1 x2 x3, kc sg x1 x2 x3 = some q → GG p l e rm_Known_marksOf s m args below meth c (QI D shX cy ad below args s q) D shX cy ad (aw shX ad) 4 4 [(0, .ref (ad 25)), (1, mI x1), (2, mI x2), (3, mI x3)] [] sg) (hk29 : ∀ sg x2, k29 sg x2 = some q → GG p l e rm_Known_marksOf s m args below meth c (QI D shX cy ad below args s q) D shX cy ad (aw shX ad) 4 29 [(2, mI x2)] [] sg) {sg : St} {x1 x2 x3 : Int} (hf : b_Known_marksOf_4  F kc k29 sg x1 x2 x3 = some q) : GG p l e rm_Known_marksOf s m args below meth c (QI D shX cy ad below args s q) D shX cy ad (aw shX ad) 4 4 [(0, .ref (ad 25)), (1, mI x1), (2, mI x2), (3, mI x3)] [] sg := by
  refine r_iload_n X 3 dX5_marksOf_4 rfl rfl ?_
  refine r_bipush X dX5_marksOf_5 (by decide) ?_
  refine r_icmp_ge (tgt := 29) X dX5_marksOf_7 (by decide) (fun hc1 => ?_) (fun hc1 => ?_)
  · have hf := ite_yes hc1 hf
    refine r_perm (lv2 := [(2, mI x2)]) [2] rfl ?_
    exact hk29 _ _ hf
  · have hf := ite_no hc1 hf
    refine r_aload_n X 0 dX5_marksOf_10 rfl rfl ?_
    refine r_iload_n X 3 dX5_marksOf_11 rfl rfl ?_
    refine r_iload_n X 1 dX5_marksOf_12 rfl rfl ?_
    obtain ⟨q2, hq2, hf⟩ := bd_some hf
    refine r_callVI X (As := [mI x3, mI x1]) (st := []) (as := fun ad => [.ref (ad 25), mI x3, mI x1]) (c_Known_pointsOf hq2) rfl yw_X5_pointsOf yv_X5_pointsOf ml_RX5_28 o_X_25 rfl rfl ⟨rfl, rfl⟩ ⟨Nat.le_of_ble_eq_true rfl, Nat.le_of_ble_eq_true rfl⟩ rfl rfl (Nat.le_of_ble_eq_true rfl) dX5_marksOf_13 ?_
    refine r_iconst X dX5_marksOf_16 ?_
    refine r_icmp_eq (tgt := 23) X dX5_marksOf_17 (by decide) (fun hc3 => ?_) (fun hc3 => ?_)
    · have hf := ite_yes hc3 hf
      refine r_iinc (lv2 := [(3, mI (x3 + 1)), (0, .ref (ad 25)), (1, mI x1), (2, mI x2)]) X 3 dX5_marksOf_23 rfl (by decide) rfl ?_
      refine r_goto (tgt := 4) X dX5_marksOf_26 (by decide) ?_
      refine r_perm (lv2 := [(0, .ref (ad 25)), (1, mI x1), (2, mI x2), (3, mI (x3 + 1))]) [1, 2, 3, 0] rfl ?_
      exact hkc _ _ _ _ hf
    · have hf := ite_no hc3 hf
      refine r_iinc (lv2 := [(2, mI (x2 + 1)), (0, .ref (ad 25)), (1, mI x1), (3, mI x3)]) X 2 dX5_marksOf_20 rfl (by decide) rfl ?_
      refine r_iinc (lv2 := [(3, mI (x3 + 1)), (2, mI (x2 + 1)), (0, .ref (ad 25)), (1, mI x1)]) X 3 dX5_marksOf_23 rfl (by decide) rfl ?_
      refine r_goto (tgt := 4) X dX5_marksOf_26 (by decide) ?_
      refine r_perm (lv2 := [(0, .ref (ad 25)), (1, mI x1), (2, mI (x2 + 1)), (3, mI (x3 + 1))]) [2, 3, 1, 0] rfl ?_
      exact hkc _ _ _ _ hf
set_option maxRecDepth 100000 in
set_option maxHeartbeats 4000000 in
theorem l_Known_marksOf_4_ok {p : Program} {l : Launch} {e : Env} {s : State} {m : MethodId} {args : Array Value} {below : List Frame} {meth : Method} {c : Code} {D : va_G} {cy : Nat → ClassId} {ad : Nat → Nat} (X : CX p s m args meth c cX5_marksOf RX5 4 (some .int) D shX cy ad (aw shX ad)) {F : Nat} {k29 : St → Int → Option (Int × St)} {q : Int × St} (hk29 : ∀ sg x2, k29 sg x2 = some q → GG p l e rm_Known_marksOf s m args below meth c (QI D shX cy ad below args s q) D shX cy ad (aw shX ad) 4 29 [(2, mI x2)] [] sg) : ∀ (n : Nat) (sg : St) (x1 x2 x3 : Int), l_Known_marksOf_4  F k29 n sg x1 x2 x3 = some q → GG p l e rm_Known_marksOf s m args below meth c (QI D shX cy ad below args s q) D shX cy ad (aw shX ad) 4 4 [(0, .ref (ad 25)), (1, mI x1), (2, mI x2), (3, mI x3)] [] sg := by
  intro n
  induction n with
  | zero => intro sg x1 x2 x3 h; cases h
  | succ n ih => exact fun sg x1 x2 x3 h => b_Known_marksOf_4_ok X ih hk29 h
set_option maxRecDepth 100000 in
set_option maxHeartbeats 4000000 in
theorem c_Known_marksOf {l : Launch} {F : Nat} {sg : St} {x1 : Int} {q : Int × St} (hf : f_Known_marksOf F  sg x1 = some q) : MI l shX yX5_marksOf cX5_marksOf 4 (some .int) rm_Known_marksOf (fun ad => [.ref (ad 25), mI x1]) sg q.2 q.1 := by
  refine mk_i (by decide) (fun _ => Nat.le_of_ble_eq_true rfl) (fun p e s m args below meth c D cy ad X => ?_)
  have X : CX p s m args meth c cX5_marksOf RX5 4 (some .int) D shX cy ad (aw shX ad) := X
  refine r_perm (lv2 := [(0, .ref (ad 25)), (1, mI x1)]) [0, 1] rfl ?_
  refine r_iconst X dX5_marksOf_0 ?_
  refine r_istore_n (lv2 := [(2, mI 0), (0, .ref (ad 25)), (1, mI x1)]) X dX5_marksOf_1 rfl (by decide) rfl ?_
  refine r_iconst X dX5_marksOf_2 ?_
  refine r_istore_n (lv2 := [(3, mI 0), (2, mI 0), (0, .ref (ad 25)), (1, mI x1)]) X dX5_marksOf_3 rfl (by decide) rfl ?_
  refine r_perm (lv2 := [(0, .ref (ad 25)), (1, mI x1), (2, mI 0), (3, mI 0)]) [2, 3, 1, 0] rfl ?_
  refine l_Known_marksOf_4_ok X ?_ F _ _ _ _ hf
  · intro s1 x2_2 hf
    refine r_iload_n X 0 dX5_marksOf_29 rfl rfl ?_
    exact r_ireturn X hf dX5_marksOf_30
set_option maxRecDepth 100000 in
set_option maxHeartbeats 4000000 in
theorem b_Known_heapAround_2_ok {p : Program} {l : Launch} {e : Env} {s : State} {m : MethodId} {args : Array Value} {below : List Frame} {meth : Method} {c : Code} {D : va_G} {cy : Nat → ClassId} {ad : Nat → Nat} (X : CX p s m args meth c cX5_heapAround RX5 3 (some .int) D shX cy ad (aw shX ad)) {F : Nat} {kc : St → Int → Int → Option (Int × St)} {k31 : St → Option (Int × St)} {q : Int × St} (hkc : ∀ sg x1 x2, kc sg x1 x2 = some q → GG p l e rm_Known_heapAround s m args below meth c (QI D shX cy ad below args s q) D shX cy ad (aw shX ad) 3 2 [(0, .ref (ad 25)), (1, mI x1), (2, mI x2)] [] sg) (hk31 : ∀ sg , k31 sg  = some q → GG p l e rm_Known_heapAround s m args below meth c (QI D shX cy ad below args s q) D shX cy ad (aw shX ad) 3 31 [] [] sg) {sg : St} {x1 x2 : Int} (hf : b_Known_heapAround_2  F kc k31 sg x1 x2 = some q) : GG p l e rm_Known_heapAround s m args below meth c (QI D shX cy ad below args s q) D shX cy ad (aw shX ad) 3 2 [(0, .ref (ad 25)), (1, mI x1), (2, mI x2)] [] sg := by
  refine r_iload_n X 2 dX5_heapAround_2 rfl rfl ?_
  refine r_bipush X dX5_heapAround_3 (by decide) ?_
  refine r_icmp_ge (tgt := 31) X dX5_heapAround_5 (by decide) (fun hc1 => ?_) (fun hc1 => ?_)
  · have hf := ite_yes hc1 hf
    refine r_perm (lv2 := []) [] rfl ?_
    exact hk31 _ hf
  · have hf := ite_no hc1 hf
    refine r_aload_n X 0 dX5_heapAround_8 rfl rfl ?_
    refine r_iload_n X 2 dX5_heapAround_9 rfl rfl ?_
    refine r_iload_n X 1 dX5_heapAround_10 rfl rfl ?_
    obtain ⟨q2, hq2, hf⟩ := bd_some hf
    refine r_callVI X (As := [mI x2, mI x1]) (st := []) (as := fun ad => [.ref (ad 25), mI x2, mI x1]) (c_Known_pointsOf hq2) rfl yw_X5_pointsOf yv_X5_pointsOf ml_RX5_28 o_X_25 rfl rfl ⟨rfl, rfl⟩ ⟨Nat.le_of_ble_eq_true rfl, Nat.le_of_ble_eq_true rfl⟩ rfl rfl (Nat.le_of_ble_eq_true rfl) dX5_heapAround_11 ?_
    refine r_iconst X dX5_heapAround_14 ?_
    refine r_icmp_eq (tgt := 25) X dX5_heapAround_15 (by decide) (fun hc3 => ?_) (fun hc3 => ?_)
    · have hf := ite_yes hc3 hf
      refine r_iinc (lv2 := [(2, mI (x2 + 1)), (0, .ref (ad 25)), (1, mI x1)]) X 2 dX5_heapAround_25 rfl (by decide) rfl ?_
      refine r_goto (tgt := 2) X dX5_heapAround_28 (by decide) ?_
      refine r_perm (lv2 := [(0, .ref (ad 25)), (1, mI x1), (2, mI (x2 + 1))]) [1, 2, 0] rfl ?_
      exact hkc _ _ _ hf
    · have hf := ite_no hc3 hf
      refine r_aload_n X 0 dX5_heapAround_18 rfl rfl ?_
      refine r_getR X fl_5_9 k_X_25_0 dX5_heapAround_19 ?_
      refine r_iload_n X 2 dX5_heapAround_22 rfl rfl ?_
      obtain ⟨hg4, hf⟩ := gd_some hf
      refine r_iald X a_X_26 hg4 dX5_heapAround_23 ?_
      exact r_ireturn X hf dX5_heapAround_24
set_option maxRecDepth 100000 in
set_option maxHeartbeats 4000000 in
theorem l_Known_heapAround_2_ok {p : Program} {l : Launch} {e : Env} {s : State} {m : MethodId} {args : Array Value} {below : List Frame} {meth : Method} {c : Code} {D : va_G} {cy : Nat → ClassId} {ad : Nat → Nat} (X : CX p s m args meth c cX5_heapAround RX5 3 (some .int) D shX cy ad (aw shX ad)) {F : Nat} {k31 : St → Option (Int × St)} {q : Int × St} (hk31 : ∀ sg , k31 sg  = some q → GG p l e rm_Known_heapAround s m args below meth c (QI D shX cy ad below args s q) D shX cy ad (aw shX ad) 3 31 [] [] sg) : ∀ (n : Nat) (sg : St) (x1 x2 : Int), l_Known_heapAround_2  F k31 n sg x1 x2 = some q → GG p l e rm_Known_heapAround s m args below meth c (QI D shX cy ad below args s q) D shX cy ad (aw shX ad) 3 2 [(0, .ref (ad 25)), (1, mI x1), (2, mI x2)] [] sg := by
  intro n
  induction n with
  | zero => intro sg x1 x2 h; cases h
  | succ n ih => exact fun sg x1 x2 h => b_Known_heapAround_2_ok X ih hk31 h
set_option maxRecDepth 100000 in
set_option maxHeartbeats 4000000 in
theorem c_Known_heapAround {l : Launch} {F : Nat} {sg : St} {x1 : Int} {q : Int × St} (hf : f_Known_heapAround F  sg x1 = some q) : MI l shX yX5_heapAround cX5_heapAround 3 (some .int) rm_Known_heapAround (fun ad => [.ref (ad 25), mI x1]) sg q.2 q.1 := by
  refine mk_i (by decide) (fun _ => Nat.le_of_ble_eq_true rfl) (fun p e s m args below meth c D cy ad X => ?_)
  have X : CX p s m args meth c cX5_heapAround RX5 3 (some .int) D shX cy ad (aw shX ad) := X
  refine r_perm (lv2 := [(0, .ref (ad 25)), (1, mI x1)]) [0, 1] rfl ?_
  refine r_iconst X dX5_heapAround_0 ?_
  refine r_istore_n (lv2 := [(2, mI 0), (0, .ref (ad 25)), (1, mI x1)]) X dX5_heapAround_1 rfl (by decide) rfl ?_
  refine r_perm (lv2 := [(0, .ref (ad 25)), (1, mI x1), (2, mI 0)]) [1, 2, 0] rfl ?_
  refine l_Known_heapAround_2_ok X ?_ F _ _ _ hf
  · intro s1  hf
    refine r_iconst X dX5_heapAround_31 ?_
    exact r_ireturn X hf dX5_heapAround_32
set_option maxRecDepth 100000 in
set_option maxHeartbeats 4000000 in
theorem b_Known_isGreat_4_ok {p : Program} {l : Launch} {e : Env} {s : State} {m : MethodId} {args : Array Value} {below : List Frame} {meth : Method} {c : Code} {D : va_G} {cy : Nat → ClassId} {ad : Nat → Nat} (X : CX p s m args meth c cX5_isGreat RX5 4 (some .boolean) D shX cy ad (aw shX ad)) {F : Nat} {kc : St → Int → Int → Int → Option (Int × St)} {k29 : St → Int → Option (Int × St)} {q : Int × St} (hkc : ∀ sg x1 x2 x3, kc sg x1 x2 x3 = some q → GG p l e rm_Known_isGreat s m args below meth c (QI D shX cy ad below args s q) D shX cy ad (aw shX ad) 4 4 [(0, .ref (ad 25)), (1, mI x1), (2, mI x2), (3, mI x3)] [] sg) (hk29 : ∀ sg x2, k29 sg x2 = some q → GG p l e rm_Known_isGreat s m args below meth c (QI D shX cy ad below args s q) D shX cy ad (aw shX ad) 4 29 [(2, mI x2)] [] sg) {sg : St} {x1 x2 x3 : Int} (hf : b_Known_isGreat_4  F kc k29 sg x1 x2 x3 = some q) : GG p l e rm_Known_isGreat s m args below meth c (QI D shX cy ad below args s q) D shX cy ad (aw shX ad) 4 4 [(0, .ref (ad 25)), (1, mI x1), (2, mI x2), (3, mI x3)] [] sg := by
  refine r_iload_n X 3 dX5_isGreat_4 rfl rfl ?_
  refine r_bipush X dX5_isGreat_5 (by decide) ?_
  refine r_icmp_ge (tgt := 29) X dX5_isGreat_7 (by decide) (fun hc1 => ?_) (fun hc1 => ?_)
  · have hf := ite_yes hc1 hf
    refine r_perm (lv2 := [(2, mI x2)]) [2] rfl ?_
    exact hk29 _ _ hf
  · have hf := ite_no hc1 hf
    refine r_aload_n X 0 dX5_isGreat_10 rfl rfl ?_
    refine r_getR X fl_5_9 k_X_25_0 dX5_isGreat_11 ?_
    refine r_iload_n X 3 dX5_isGreat_14 rfl rfl ?_
    obtain ⟨hg2, hf⟩ := gd_some hf
    refine r_iald X a_X_26 hg2 dX5_isGreat_15 ?_
    refine r_iload_n X 1 dX5_isGreat_16 rfl rfl ?_
    refine r_icmp_ne (tgt := 23) X dX5_isGreat_17 (by decide) (fun hc3 => ?_) (fun hc3 => ?_)
    · have hf := ite_yes hc3 hf
      refine r_iinc (lv2 := [(2, mI (x2 + 1)), (0, .ref (ad 25)), (1, mI x1), (3, mI x3)]) X 2 dX5_isGreat_20 rfl (by decide) rfl ?_
      refine r_iinc (lv2 := [(3, mI (x3 + 1)), (2, mI (x2 + 1)), (0, .ref (ad 25)), (1, mI x1)]) X 3 dX5_isGreat_23 rfl (by decide) rfl ?_
      refine r_goto (tgt := 4) X dX5_isGreat_26 (by decide) ?_
      refine r_perm (lv2 := [(0, .ref (ad 25)), (1, mI x1), (2, mI (x2 + 1)), (3, mI (x3 + 1))]) [2, 3, 1, 0] rfl ?_
      exact hkc _ _ _ _ hf
    · have hf := ite_no hc3 hf
      refine r_iinc (lv2 := [(3, mI (x3 + 1)), (0, .ref (ad 25)), (1, mI x1), (2, mI x2)]) X 3 dX5_isGreat_23 rfl (by decide) rfl ?_
      refine r_goto (tgt := 4) X dX5_isGreat_26 (by decide) ?_
      refine r_perm (lv2 := [(0, .ref (ad 25)), (1, mI x1), (2, mI x2), (3, mI (x3 + 1))]) [1, 2, 3, 0] rfl ?_
      exact hkc _ _ _ _ hf
set_option maxRecDepth 100000 in
set_option maxHeartbeats 4000000 in
theorem l_Known_isGreat_4_ok {p : Program} {l : Launch} {e : Env} {s : State} {m : MethodId} {args : Array Value} {below : List Frame} {meth : Method} {c : Code} {D : va_G} {cy : Nat → ClassId} {ad : Nat → Nat} (X : CX p s m args meth c cX5_isGreat RX5 4 (some .boolean) D shX cy ad (aw shX ad)) {F : Nat} {k29 : St → Int → Option (Int × St)} {q : Int × St} (hk29 : ∀ sg x2, k29 sg x2 = some q → GG p l e rm_Known_isGreat s m args below meth c (QI D shX cy ad below args s q) D shX cy ad (aw shX ad) 4 29 [(2, mI x2)] [] sg) : ∀ (n : Nat) (sg : St) (x1 x2 x3 : Int), l_Known_isGreat_4  F k29 n sg x1 x2 x3 = some q → GG p l e rm_Known_isGreat s m args below meth c (QI D shX cy ad below args s q) D shX cy ad (aw shX ad) 4 4 [(0, .ref (ad 25)), (1, mI x1), (2, mI x2), (3, mI x3)] [] sg := by
  intro n
  induction n with
  | zero => intro sg x1 x2 x3 h; cases h
  | succ n ih => exact fun sg x1 x2 x3 h => b_Known_isGreat_4_ok X ih hk29 h
set_option maxRecDepth 100000 in
set_option maxHeartbeats 4000000 in
theorem c_Known_isGreat {l : Launch} {F : Nat} {sg : St} {x1 : Int} {q : Int × St} (hf : f_Known_isGreat F  sg x1 = some q) : MI l shX yX5_isGreat cX5_isGreat 4 (some .boolean) rm_Known_isGreat (fun ad => [.ref (ad 25), mI x1]) sg q.2 q.1 := by
  refine mk_i (by decide) (fun _ => Nat.le_of_ble_eq_true rfl) (fun p e s m args below meth c D cy ad X => ?_)
  have X : CX p s m args meth c cX5_isGreat RX5 4 (some .boolean) D shX cy ad (aw shX ad) := X
  refine r_perm (lv2 := [(0, .ref (ad 25)), (1, mI x1)]) [0, 1] rfl ?_
  refine r_iconst X dX5_isGreat_0 ?_
  refine r_istore_n (lv2 := [(2, mI 0), (0, .ref (ad 25)), (1, mI x1)]) X dX5_isGreat_1 rfl (by decide) rfl ?_
  refine r_iconst X dX5_isGreat_2 ?_
  refine r_istore_n (lv2 := [(3, mI 0), (2, mI 0), (0, .ref (ad 25)), (1, mI x1)]) X dX5_isGreat_3 rfl (by decide) rfl ?_
  refine r_perm (lv2 := [(0, .ref (ad 25)), (1, mI x1), (2, mI 0), (3, mI 0)]) [2, 3, 1, 0] rfl ?_
  refine l_Known_isGreat_4_ok X ?_ F _ _ _ _ hf
  · intro s1 x2_2 hf
    refine r_iload_n X 0 dX5_isGreat_29 rfl rfl ?_
    refine r_iconst X dX5_isGreat_30 ?_
    refine r_icmp_le (tgt := 38) X dX5_isGreat_31 (by decide) (fun hc3 => ?_) (fun hc3 => ?_)
    · have hf := ite_yes hc3 hf
      refine r_iconst X dX5_isGreat_38 ?_
      exact r_zreturn X hf rfl dX5_isGreat_39
    · have hf := ite_no hc3 hf
      refine r_iconst X dX5_isGreat_34 ?_
      refine r_goto (tgt := 39) X dX5_isGreat_35 (by decide) ?_
      exact r_zreturn X hf rfl dX5_isGreat_39
set_option maxRecDepth 100000 in
set_option maxHeartbeats 4000000 in
theorem b_Known_anyGreat_2_ok {p : Program} {l : Launch} {e : Env} {s : State} {m : MethodId} {args : Array Value} {below : List Frame} {meth : Method} {c : Code} {D : va_G} {cy : Nat → ClassId} {ad : Nat → Nat} (X : CX p s m args meth c cX5_anyGreat RX5 2 (some .boolean) D shX cy ad (aw shX ad)) {F : Nat} {kc : St → Int → Option (Int × St)} {k34 : St → Option (Int × St)} {q : Int × St} (hkc : ∀ sg x1, kc sg x1 = some q → GG p l e rm_Known_anyGreat s m args below meth c (QI D shX cy ad below args s q) D shX cy ad (aw shX ad) 2 2 [(0, .ref (ad 25)), (1, mI x1)] [] sg) (hk34 : ∀ sg , k34 sg  = some q → GG p l e rm_Known_anyGreat s m args below meth c (QI D shX cy ad below args s q) D shX cy ad (aw shX ad) 2 34 [] [] sg) {sg : St} {x1 : Int} (hf : b_Known_anyGreat_2  F kc k34 sg x1 = some q) : GG p l e rm_Known_anyGreat s m args below meth c (QI D shX cy ad below args s q) D shX cy ad (aw shX ad) 2 2 [(0, .ref (ad 25)), (1, mI x1)] [] sg := by
  refine r_iload_n X 1 dX5_anyGreat_2 rfl rfl ?_
  refine r_bipush X dX5_anyGreat_3 (by decide) ?_
  refine r_icmp_ge (tgt := 34) X dX5_anyGreat_5 (by decide) (fun hc1 => ?_) (fun hc1 => ?_)
  · have hf := ite_yes hc1 hf
    refine r_perm (lv2 := []) [] rfl ?_
    exact hk34 _ hf
  · have hf := ite_no hc1 hf
    refine r_aload_n X 0 dX5_anyGreat_8 rfl rfl ?_
    refine r_getR X fl_5_9 k_X_25_0 dX5_anyGreat_9 ?_
    refine r_iload_n X 1 dX5_anyGreat_12 rfl rfl ?_
    obtain ⟨hg2, hf⟩ := gd_some hf
    refine r_iald X a_X_26 hg2 dX5_anyGreat_13 ?_
    refine r_iload_n X 1 dX5_anyGreat_14 rfl rfl ?_
    refine r_icmp_ne (tgt := 28) X dX5_anyGreat_15 (by decide) (fun hc3 => ?_) (fun hc3 => ?_)
    · have hf := ite_yes hc3 hf
      refine r_aload_n X 0 dX5_anyGreat_18 rfl rfl ?_
      refine r_iload_n X 1 dX5_anyGreat_19 rfl rfl ?_
      obtain ⟨q4, hq4, hf⟩ := bd_some hf
      refine r_callVI X (As := [mI x1]) (st := []) (as := fun ad => [.ref (ad 25), mI x1]) (c_Known_isGreat hq4) rfl yw_X5_isGreat yv_X5_isGreat ml_RX5_32 o_X_25 rfl rfl ⟨rfl, rfl⟩ ⟨Nat.le_of_ble_eq_true rfl, Nat.le_of_ble_eq_true rfl⟩ rfl rfl (Nat.le_of_ble_eq_true rfl) dX5_anyGreat_20 ?_
      refine r_if_eq (tgt := 28) X dX5_anyGreat_23 (by decide) (fun hc5 => ?_) (fun hc5 => ?_)
      · have hf := ite_yes hc5 hf
        refine r_iinc (lv2 := [(1, mI (x1 + 1)), (0, .ref (ad 25))]) X 1 dX5_anyGreat_28 rfl (by decide) rfl ?_
        refine r_goto (tgt := 2) X dX5_anyGreat_31 (by decide) ?_
        refine r_perm (lv2 := [(0, .ref (ad 25)), (1, mI (x1 + 1))]) [1, 0] rfl ?_
        exact hkc _ _ hf
      · have hf := ite_no hc5 hf
        refine r_iconst X dX5_anyGreat_26 ?_
        exact r_zreturn X hf rfl dX5_anyGreat_27
    · have hf := ite_no hc3 hf
      refine r_iinc (lv2 := [(1, mI (x1 + 1)), (0, .ref (ad 25))]) X 1 dX5_anyGreat_28 rfl (by decide) rfl ?_
      refine r_goto (tgt := 2) X dX5_anyGreat_31 (by decide) ?_
      refine r_perm (lv2 := [(0, .ref (ad 25)), (1, mI (x1 + 1))]) [1, 0] rfl ?_
      exact hkc _ _ hf
set_option maxRecDepth 100000 in
set_option maxHeartbeats 4000000 in
theorem l_Known_anyGreat_2_ok {p : Program} {l : Launch} {e : Env} {s : State} {m : MethodId} {args : Array Value} {below : List Frame} {meth : Method} {c : Code} {D : va_G} {cy : Nat → ClassId} {ad : Nat → Nat} (X : CX p s m args meth c cX5_anyGreat RX5 2 (some .boolean) D shX cy ad (aw shX ad)) {F : Nat} {k34 : St → Option (Int × St)} {q : Int × St} (hk34 : ∀ sg , k34 sg  = some q → GG p l e rm_Known_anyGreat s m args below meth c (QI D shX cy ad below args s q) D shX cy ad (aw shX ad) 2 34 [] [] sg) : ∀ (n : Nat) (sg : St) (x1 : Int), l_Known_anyGreat_2  F k34 n sg x1 = some q → GG p l e rm_Known_anyGreat s m args below meth c (QI D shX cy ad below args s q) D shX cy ad (aw shX ad) 2 2 [(0, .ref (ad 25)), (1, mI x1)] [] sg := by
  intro n
  induction n with
  | zero => intro sg x1 h; cases h
  | succ n ih => exact fun sg x1 h => b_Known_anyGreat_2_ok X ih hk34 h
set_option maxRecDepth 100000 in
set_option maxHeartbeats 4000000 in
theorem c_Known_anyGreat {l : Launch} {F : Nat} {sg : St} {q : Int × St} (hf : f_Known_anyGreat F  sg  = some q) : MI l shX yX5_anyGreat cX5_anyGreat 2 (some .boolean) rm_Known_anyGreat (fun ad => [.ref (ad 25)]) sg q.2 q.1 := by
  refine mk_i (by decide) (fun _ => Nat.le_of_ble_eq_true rfl) (fun p e s m args below meth c D cy ad X => ?_)
  have X : CX p s m args meth c cX5_anyGreat RX5 2 (some .boolean) D shX cy ad (aw shX ad) := X
  refine r_perm (lv2 := [(0, .ref (ad 25))]) [0] rfl ?_
  refine r_iconst X dX5_anyGreat_0 ?_
  refine r_istore_n (lv2 := [(1, mI 0), (0, .ref (ad 25))]) X dX5_anyGreat_1 rfl (by decide) rfl ?_
  refine r_perm (lv2 := [(0, .ref (ad 25)), (1, mI 0)]) [1, 0] rfl ?_
  refine l_Known_anyGreat_2_ok X ?_ F _ _ hf
  · intro s1  hf
    refine r_iconst X dX5_anyGreat_34 ?_
    exact r_zreturn X hf rfl dX5_anyGreat_35
set_option maxRecDepth 100000 in
set_option maxHeartbeats 4000000 in
theorem b_Known_joinHeaps_16_ok {p : Program} {l : Launch} {e : Env} {s : State} {m : MethodId} {args : Array Value} {below : List Frame} {meth : Method} {c : Code} {D : va_G} {cy : Nat → ClassId} {ad : Nat → Nat} (X : CX p s m args meth c cX5_joinHeaps RX5 6 none D shX cy ad (aw shX ad)) {F : Nat} {kc : St → Int → Int → Int → Option (St)} {k55 : St → Option (St)} {q : St} (hkc : ∀ sg x3 x4 x5, kc sg x3 x4 x5 = some q → GG p l e rm_Known_joinHeaps s m args below meth c (QV D shX cy ad below args s q) D shX cy ad (aw shX ad) 6 16 [(0, .ref (ad 25)), (3, mI x3), (4, mI x4), (5, mI x5)] [] sg) (hk55 : ∀ sg , k55 sg  = some q → GG p l e rm_Known_joinHeaps s m args below meth c (QV D shX cy ad below args s q) D shX cy ad (aw shX ad) 6 55 [] [] sg) {sg : St} {x3 x4 x5 : Int} (hf : b_Known_joinHeaps_16  F kc k55 sg x3 x4 x5 = some q) : GG p l e rm_Known_joinHeaps s m args below meth c (QV D shX cy ad below args s q) D shX cy ad (aw shX ad) 6 16 [(0, .ref (ad 25)), (3, mI x3), (4, mI x4), (5, mI x5)] [] sg := by
  refine r_iload X 3 dX5_joinHeaps_16 rfl ?_
  refine r_bipush X dX5_joinHeaps_18 (by decide) ?_
  refine r_icmp_ge (tgt := 55) X dX5_joinHeaps_20 (by decide) (fun hc1 => ?_) (fun hc1 => ?_)
  · have hf := ite_yes hc1 hf
    refine r_perm (lv2 := []) [] rfl ?_
    exact hk55 _ hf
  · have hf := ite_no hc1 hf
    refine r_iload_n X 1 dX5_joinHeaps_23 rfl rfl ?_
    refine r_iload X 2 dX5_joinHeaps_24 rfl ?_
    refine r_icmp_ge (tgt := 55) X dX5_joinHeaps_26 (by decide) (fun hc2 => ?_) (fun hc2 => ?_)
    · have hf := ite_yes hc2 hf
      refine r_perm (lv2 := []) [] rfl ?_
      exact hk55 _ hf
    · have hf := ite_no hc2 hf
      refine r_aload_n X 0 dX5_joinHeaps_29 rfl rfl ?_
      refine r_getR X fl_5_9 k_X_25_0 dX5_joinHeaps_30 ?_
      refine r_iload X 3 dX5_joinHeaps_33 rfl ?_
      obtain ⟨hg3, hf⟩ := gd_some hf
      refine r_iald X a_X_26 hg3 dX5_joinHeaps_35 ?_
      refine r_iload X 2 dX5_joinHeaps_36 rfl ?_
      refine r_icmp_ne (tgt := 49) X dX5_joinHeaps_38 (by decide) (fun hc4 => ?_) (fun hc4 => ?_)
      · have hf := ite_yes hc4 hf
        refine r_aload_n X 0 dX5_joinHeaps_41 rfl rfl ?_
        refine r_getR X fl_5_9 k_X_25_0 dX5_joinHeaps_42 ?_
        refine r_iload X 3 dX5_joinHeaps_45 rfl ?_
        refine r_iload_n X 1 dX5_joinHeaps_47 rfl rfl ?_
        obtain ⟨hg5, hf⟩ := gd_some hf
        refine r_iast X a_X_26 hg5 dX5_joinHeaps_48 ?_
        refine r_iinc (lv2 := [(5, mI (x5 + 1)), (0, .ref (ad 25)), (3, mI x3), (4, mI x4)]) X 3 dX5_joinHeaps_49 rfl (by decide) rfl ?_
        refine r_goto (tgt := 16) X dX5_joinHeaps_52 (by decide) ?_
        refine r_perm (lv2 := [(0, .ref (ad 25)), (3, mI x3), (4, mI x4), (5, mI (x5 + 1))]) [1, 2, 3, 0] rfl ?_
        exact hkc _ _ _ _ hf
      · have hf := ite_no hc4 hf
        refine r_iinc (lv2 := [(5, mI (x5 + 1)), (0, .ref (ad 25)), (3, mI x3), (4, mI x4)]) X 3 dX5_joinHeaps_49 rfl (by decide) rfl ?_
        refine r_goto (tgt := 16) X dX5_joinHeaps_52 (by decide) ?_
        refine r_perm (lv2 := [(0, .ref (ad 25)), (3, mI x3), (4, mI x4), (5, mI (x5 + 1))]) [1, 2, 3, 0] rfl ?_
        exact hkc _ _ _ _ hf
set_option maxRecDepth 100000 in
set_option maxHeartbeats 4000000 in
theorem l_Known_joinHeaps_16_ok {p : Program} {l : Launch} {e : Env} {s : State} {m : MethodId} {args : Array Value} {below : List Frame} {meth : Method} {c : Code} {D : va_G} {cy : Nat → ClassId} {ad : Nat → Nat} (X : CX p s m args meth c cX5_joinHeaps RX5 6 none D shX cy ad (aw shX ad)) {F : Nat} {k55 : St → Option (St)} {q : St} (hk55 : ∀ sg , k55 sg  = some q → GG p l e rm_Known_joinHeaps s m args below meth c (QV D shX cy ad below args s q) D shX cy ad (aw shX ad) 6 55 [] [] sg) : ∀ (n : Nat) (sg : St) (x3 x4 x5 : Int), l_Known_joinHeaps_16  F k55 n sg x3 x4 x5 = some q → GG p l e rm_Known_joinHeaps s m args below meth c (QV D shX cy ad below args s q) D shX cy ad (aw shX ad) 6 16 [(0, .ref (ad 25)), (3, mI x3), (4, mI x4), (5, mI x5)] [] sg := by
  intro n
  induction n with
  | zero => intro sg x3 x4 x5 h; cases h
  | succ n ih => exact fun sg x3 x4 x5 h => b_Known_joinHeaps_16_ok X ih hk55 h
set_option maxRecDepth 100000 in
set_option maxHeartbeats 4000000 in
theorem c_Known_joinHeaps {l : Launch} {F : Nat} {sg : St} {x1 x2 : Int} {q : St} (hf : f_Known_joinHeaps F  sg x1 x2 = some q) : MV l shX yX5_joinHeaps cX5_joinHeaps 6 none rm_Known_joinHeaps (fun ad => [.ref (ad 25), mI x1, mI x2]) sg q := by
  refine mk_v (by decide) (fun _ => Nat.le_of_ble_eq_true rfl) (fun p e s m args below meth c D cy ad X => ?_)
  have X : CX p s m args meth c cX5_joinHeaps RX5 6 none D shX cy ad (aw shX ad) := X
  refine r_perm (lv2 := [(0, .ref (ad 25)), (1, mI x1), (2, mI x2)]) [0, 1, 2] rfl ?_
  refine r_iload_n X 1 dX5_joinHeaps_0 rfl rfl ?_
  refine r_iload_n X 2 dX5_joinHeaps_1 rfl rfl ?_
  obtain ⟨q1, hq1, hf⟩ := bd_some hf
  refine r_callSI X (As := [mI x1, mI x2]) (st := []) (as := fun ad => [mI x1, mI x2]) (c_XJ_min hq1) rfl yw_J9_min_7cf53 ys_J9_min_7cf53 ml_RX5_58 ⟨rfl, rfl⟩ ⟨Nat.le_of_ble_eq_true rfl, Nat.le_of_ble_eq_true rfl⟩ rfl rfl (Nat.le_of_ble_eq_true rfl) dX5_joinHeaps_2 ?_
  refine r_istore_n (lv2 := [(3, mI q1.1), (0, .ref (ad 25)), (1, mI x1), (2, mI x2)]) X dX5_joinHeaps_5 rfl (by decide) rfl ?_
  refine r_iload_n X 2 dX5_joinHeaps_6 rfl rfl ?_
  refine r_iload_n X 3 dX5_joinHeaps_7 rfl rfl ?_
  obtain ⟨q2, hq2, hf⟩ := bd_some hf
  refine r_callSI X (As := [mI x1, mI x2]) (st := []) (as := fun ad => [mI x1, mI x2]) (c_XJ_max hq2) rfl yw_J9_max_7cf53 ys_J9_max_7cf53 ml_RX5_63 ⟨rfl, rfl⟩ ⟨Nat.le_of_ble_eq_true rfl, Nat.le_of_ble_eq_true rfl⟩ rfl rfl (Nat.le_of_ble_eq_true rfl) dX5_joinHeaps_8 ?_
  refine r_istore (lv2 := [(4, mI q2.1), (3, mI q1.1), (0, .ref (ad 25)), (1, mI x1), (2, mI x2)]) X dX5_joinHeaps_11 (by decide) rfl ?_
  refine r_iconst X dX5_joinHeaps_13 ?_
  refine r_istore (lv2 := [(5, mI 0), (4, mI q2.1), (3, mI q1.1), (0, .ref (ad 25)), (1, mI x1), (2, mI x2)]) X dX5_joinHeaps_14 (by decide) rfl ?_
  refine r_perm (lv2 := [(0, .ref (ad 25)), (3, mI q1.1), (4, mI q2.1), (5, mI 0)]) [3, 2, 1, 0] rfl ?_
  refine l_Known_joinHeaps_16_ok X ?_ F _ _ _ _ hf
  · intro s3  hf
    exact r_vreturn X hf dX5_joinHeaps_55
set_option maxRecDepth 100000 in
set_option maxHeartbeats 4000000 in
theorem c_Marks_has {l : Launch} {sg : St} {x1 : Int} {q : Int × St} (hf : f_Marks_has  sg x1 = some q) : MI l shX yX6_has cX6_has 2 (some .boolean) rm_Marks_has (fun ad => [.ref (ad 19), mI x1]) sg q.2 q.1 := by
  refine mk_i (by decide) (fun _ => Nat.le_of_ble_eq_true rfl) (fun p e s m args below meth c D cy ad X => ?_)
  have X : CX p s m args meth c cX6_has RX6 2 (some .boolean) D shX cy ad (aw shX ad) := X
  refine r_perm (lv2 := [(0, .ref (ad 19)), (1, mI x1)]) [0, 1] rfl ?_
  refine r_iload_n X 1 dX6_has_0 rfl rfl ?_
  refine r_if_lt (tgt := 16) X dX6_has_1 (by decide) (fun hc1 => ?_) (fun hc1 => ?_)
  · have hf := ite_yes hc1 hf
    refine r_iconst X dX6_has_16 ?_
    exact r_zreturn X hf rfl dX6_has_17
  · have hf := ite_no hc1 hf
    refine r_iload_n X 1 dX6_has_4 rfl rfl ?_
    refine r_aload_n X 0 dX6_has_5 rfl rfl ?_
    refine r_getI X fl_6_27 k_X_19_0 dX6_has_6 ?_
    refine r_icmp_ge (tgt := 16) X dX6_has_9 (by decide) (fun hc2 => ?_) (fun hc2 => ?_)
    · have hf := ite_yes hc2 hf
      refine r_iconst X dX6_has_16 ?_
      exact r_zreturn X hf rfl dX6_has_17
    · have hf := ite_no hc2 hf
      refine r_iconst X dX6_has_12 ?_
      refine r_goto (tgt := 17) X dX6_has_13 (by decide) ?_
      exact r_zreturn X hf rfl dX6_has_17
set_option maxRecDepth 100000 in
set_option maxHeartbeats 4000000 in
theorem c_Marks_add {l : Launch} {sg : St} {x1 x2 x3 x4 : Int} {q : Int × St} (hf : f_Marks_add  sg x1 x2 x3 x4 = some q) : MI l shX yX6_add cX6_add 6 (some .int) rm_Marks_add (fun ad => [.ref (ad 19), mI x1, mI x2, mI x3, mI x4]) sg q.2 q.1 := by
  refine mk_i (by decide) (fun _ => Nat.le_of_ble_eq_true rfl) (fun p e s m args below meth c D cy ad X => ?_)
  have X : CX p s m args meth c cX6_add RX6 6 (some .int) D shX cy ad (aw shX ad) := X
  refine r_perm (lv2 := [(0, .ref (ad 19)), (1, mI x1), (2, mI x2), (3, mI x3), (4, mI x4)]) [0, 1, 2, 3, 4] rfl ?_
  refine r_aload_n X 0 dX6_add_0 rfl rfl ?_
  refine r_getI X fl_6_27 k_X_19_0 dX6_add_1 ?_
  refine r_istore (lv2 := [(5, mI (sg 19 0)), (0, .ref (ad 19)), (1, mI x1), (2, mI x2), (3, mI x3), (4, mI x4)]) X dX6_add_4 (by decide) rfl ?_
  refine r_aload_n X 1 dX6_add_6 rfl rfl ?_
  refine r_getR X fl_6_9 k_X_19_1 dX6_add_7 ?_
  refine r_iload X 0 dX6_add_10 rfl ?_
  refine r_iload_n X 2 dX6_add_12 rfl rfl ?_
  obtain ⟨hg1, hf⟩ := gd_some hf
  refine r_iast X a_X_20 hg1 dX6_add_13 ?_
  refine r_aload_n X 1 dX6_add_14 rfl rfl ?_
  refine r_getR X fl_6_15 k_X_19_2 dX6_add_15 ?_
  refine r_iload X 0 dX6_add_18 rfl ?_
  refine r_iload_n X 3 dX6_add_20 rfl rfl ?_
  obtain ⟨hg3, hf⟩ := gd_some hf
  refine r_iast X a_X_21 hg3 dX6_add_21 ?_
  refine r_aload_n X 1 dX6_add_22 rfl rfl ?_
  refine r_getR X fl_6_18 k_X_19_3 dX6_add_23 ?_
  refine r_iload X 0 dX6_add_26 rfl ?_
  refine r_iload_n X 4 dX6_add_28 rfl rfl ?_
  obtain ⟨hg5, hf⟩ := gd_some hf
  refine r_iast X a_X_22 hg5 dX6_add_29 ?_
  refine r_aload_n X 1 dX6_add_30 rfl rfl ?_
  refine r_getR X fl_6_21 k_X_19_4 dX6_add_31 ?_
  refine r_iload X 0 dX6_add_34 rfl ?_
  refine r_iload X 5 dX6_add_36 rfl ?_
  obtain ⟨hg7, hf⟩ := gd_some hf
  refine r_iast X a_X_23 hg7 dX6_add_38 ?_
  refine r_aload_n X 1 dX6_add_39 rfl rfl ?_
  refine r_getR X fl_6_24 k_X_19_5 dX6_add_40 ?_
  refine r_iload X 0 dX6_add_43 rfl ?_
  refine r_iconst X dX6_add_45 ?_
  obtain ⟨hg9, hf⟩ := gd_some hf
  refine r_iast X a_X_24 hg9 dX6_add_46 ?_
  refine r_aload_n X 1 dX6_add_47 rfl rfl ?_
  refine r_dup X dX6_add_48 rfl ?_
  refine r_getI X fl_6_27 k_X_19_0 dX6_add_49 ?_
  refine r_iconst X dX6_add_52 ?_
  refine r_iadd X dX6_add_53 ?_
  refine r_putI X fp_6_27 k_X_19_0 rfl rfl dX6_add_54 ?_
  refine r_iload X 0 dX6_add_57 rfl ?_
  exact r_ireturn X hf dX6_add_59
set_option maxRecDepth 100000 in
set_option maxHeartbeats 4000000 in
theorem c_Marks_standsOn {l : Launch} {sg : St} {x1 x2 : Int} {q : Int × St} (hf : f_Marks_standsOn  sg x1 x2 = some q) : MI l shX yX6_standsOn cX6_standsOn 3 (some .boolean) rm_Marks_standsOn (fun ad => [.ref (ad 19), mI x1, mI x2]) sg q.2 q.1 := by
  refine mk_i (by decide) (fun _ => Nat.le_of_ble_eq_true rfl) (fun p e s m args below meth c D cy ad X => ?_)
  have X : CX p s m args meth c cX6_standsOn RX6 3 (some .boolean) D shX cy ad (aw shX ad) := X
  refine r_perm (lv2 := [(0, .ref (ad 19)), (1, mI x1), (2, mI x2)]) [0, 1, 2] rfl ?_
  refine r_aload_n X 0 dX6_standsOn_0 rfl rfl ?_
  refine r_getR X fl_6_21 k_X_19_4 dX6_standsOn_1 ?_
  refine r_iload_n X 1 dX6_standsOn_4 rfl rfl ?_
  obtain ⟨hg1, hf⟩ := gd_some hf
  refine r_iald X a_X_23 hg1 dX6_standsOn_5 ?_
  refine r_iload_n X 2 dX6_standsOn_6 rfl rfl ?_
  refine r_icmp_gt (tgt := 34) X dX6_standsOn_7 (by decide) (fun hc2 => ?_) (fun hc2 => ?_)
  · have hf := ite_yes hc2 hf
    refine r_iconst X dX6_standsOn_34 ?_
    exact r_zreturn X hf rfl dX6_standsOn_35
  · have hf := ite_no hc2 hf
    refine r_aload_n X 0 dX6_standsOn_10 rfl rfl ?_
    refine r_getR X fl_6_24 k_X_19_5 dX6_standsOn_11 ?_
    refine r_iload_n X 1 dX6_standsOn_14 rfl rfl ?_
    obtain ⟨hg3, hf⟩ := gd_some hf
    refine r_iald X a_X_24 hg3 dX6_standsOn_15 ?_
    refine r_iconst X dX6_standsOn_16 ?_
    refine r_icmp_eq (tgt := 30) X dX6_standsOn_17 (by decide) (fun hc4 => ?_) (fun hc4 => ?_)
    · have hf := ite_yes hc4 hf
      refine r_iconst X dX6_standsOn_30 ?_
      refine r_goto (tgt := 35) X dX6_standsOn_31 (by decide) ?_
      exact r_zreturn X hf rfl dX6_standsOn_35
    · have hf := ite_no hc4 hf
      refine r_aload_n X 0 dX6_standsOn_20 rfl rfl ?_
      refine r_getR X fl_6_24 k_X_19_5 dX6_standsOn_21 ?_
      refine r_iload_n X 1 dX6_standsOn_24 rfl rfl ?_
      obtain ⟨hg5, hf⟩ := gd_some hf
      refine r_iald X a_X_24 hg5 dX6_standsOn_25 ?_
      refine r_iload_n X 2 dX6_standsOn_26 rfl rfl ?_
      refine r_icmp_le (tgt := 34) X dX6_standsOn_27 (by decide) (fun hc6 => ?_) (fun hc6 => ?_)
      · have hf := ite_yes hc6 hf
        refine r_iconst X dX6_standsOn_34 ?_
        exact r_zreturn X hf rfl dX6_standsOn_35
      · have hf := ite_no hc6 hf
        refine r_iconst X dX6_standsOn_30 ?_
        refine r_goto (tgt := 35) X dX6_standsOn_31 (by decide) ?_
        exact r_zreturn X hf rfl dX6_standsOn_35
set_option maxRecDepth 100000 in
set_option maxHeartbeats 4000000 in
theorem c_Plan_hasBoard {l : Launch} {sg : St} {x1 : Int} {q : Int × St} (hf : f_Plan_hasBoard  sg x1 = some q) : MI l shX yX7_hasBoard cX7_hasBoard 2 (some .boolean) rm_Plan_hasBoard (fun ad => [.ref (ad 11), mI x1]) sg q.2 q.1 := by
  refine mk_i (by decide) (fun _ => Nat.le_of_ble_eq_true rfl) (fun p e s m args below meth c D cy ad X => ?_)
  have X : CX p s m args meth c cX7_hasBoard RX7 2 (some .boolean) D shX cy ad (aw shX ad) := X
  refine r_perm (lv2 := [(0, .ref (ad 11)), (1, mI x1)]) [0, 1] rfl ?_
  refine r_iload_n X 1 dX7_hasBoard_0 rfl rfl ?_
  refine r_if_lt (tgt := 16) X dX7_hasBoard_1 (by decide) (fun hc1 => ?_) (fun hc1 => ?_)
  · have hf := ite_yes hc1 hf
    refine r_iconst X dX7_hasBoard_16 ?_
    exact r_zreturn X hf rfl dX7_hasBoard_17
  · have hf := ite_no hc1 hf
    refine r_iload_n X 1 dX7_hasBoard_4 rfl rfl ?_
    refine r_aload_n X 0 dX7_hasBoard_5 rfl rfl ?_
    refine r_getI X fl_7_33 k_X_11_1 dX7_hasBoard_6 ?_
    refine r_icmp_ge (tgt := 16) X dX7_hasBoard_9 (by decide) (fun hc2 => ?_) (fun hc2 => ?_)
    · have hf := ite_yes hc2 hf
      refine r_iconst X dX7_hasBoard_16 ?_
      exact r_zreturn X hf rfl dX7_hasBoard_17
    · have hf := ite_no hc2 hf
      refine r_iconst X dX7_hasBoard_12 ?_
      refine r_goto (tgt := 17) X dX7_hasBoard_13 (by decide) ?_
      exact r_zreturn X hf rfl dX7_hasBoard_17
set_option maxRecDepth 100000 in
set_option maxHeartbeats 4000000 in
theorem c_Plan_hasJudge {l : Launch} {sg : St} {x1 : Int} {q : Int × St} (hf : f_Plan_hasJudge  sg x1 = some q) : MI l shX yX7_hasJudge cX7_hasJudge 2 (some .boolean) rm_Plan_hasJudge (fun ad => [.ref (ad 11), mI x1]) sg q.2 q.1 := by
  refine mk_i (by decide) (fun _ => Nat.le_of_ble_eq_true rfl) (fun p e s m args below meth c D cy ad X => ?_)
  have X : CX p s m args meth c cX7_hasJudge RX7 2 (some .boolean) D shX cy ad (aw shX ad) := X
  refine r_perm (lv2 := [(0, .ref (ad 11)), (1, mI x1)]) [0, 1] rfl ?_
  refine r_iload_n X 1 dX7_hasJudge_0 rfl rfl ?_
  refine r_if_lt (tgt := 16) X dX7_hasJudge_1 (by decide) (fun hc1 => ?_) (fun hc1 => ?_)
  · have hf := ite_yes hc1 hf
    refine r_iconst X dX7_hasJudge_16 ?_
    exact r_zreturn X hf rfl dX7_hasJudge_17
  · have hf := ite_no hc1 hf
    refine r_iload_n X 1 dX7_hasJudge_4 rfl rfl ?_
    refine r_aload_n X 0 dX7_hasJudge_5 rfl rfl ?_
    refine r_getI X fl_7_37 k_X_11_2 dX7_hasJudge_6 ?_
    refine r_icmp_ge (tgt := 16) X dX7_hasJudge_9 (by decide) (fun hc2 => ?_) (fun hc2 => ?_)
    · have hf := ite_yes hc2 hf
      refine r_iconst X dX7_hasJudge_16 ?_
      exact r_zreturn X hf rfl dX7_hasJudge_17
    · have hf := ite_no hc2 hf
      refine r_iconst X dX7_hasJudge_12 ?_
      refine r_goto (tgt := 17) X dX7_hasJudge_13 (by decide) ?_
      exact r_zreturn X hf rfl dX7_hasJudge_17
set_option maxRecDepth 100000 in
set_option maxHeartbeats 4000000 in
theorem b_Plan_begin_79_ok {p : Program} {l : Launch} {e : Env} {s : State} {m : MethodId} {args : Array Value} {below : List Frame} {meth : Method} {c : Code} {D : va_G} {cy : Nat → ClassId} {ad : Nat → Nat} (X : CX p s m args meth c cX7_begin RX7 5 none D shX cy ad (aw shX ad)) {F : Nat} {kc : St → Int → Option (St)} {k116 : St → Option (St)} {q : St} (hkc : ∀ sg x4, kc sg x4 = some q → GG p l e rm_Plan_begin s m args below meth c (QV D shX cy ad below args s q) D shX cy ad (aw shX ad) 5 79 [(0, .ref (ad 11)), (2, .ref (ad 7)), (4, mI x4)] [] sg) (hk116 : ∀ sg , k116 sg  = some q → GG p l e rm_Plan_begin s m args below meth c (QV D shX cy ad below args s q) D shX cy ad (aw shX ad) 5 116 [] [] sg) {sg : St} {x4 : Int} (hf : b_Plan_begin_79  F kc k116 sg x4 = some q) : GG p l e rm_Plan_begin s m args below meth c (QV D shX cy ad below args s q) D shX cy ad (aw shX ad) 5 79 [(0, .ref (ad 11)), (2, .ref (ad 7)), (4, mI x4)] [] sg := by
  refine r_iload X 2 dX7_begin_79 rfl ?_
  refine r_aload_n X 0 dX7_begin_81 rfl rfl ?_
  refine r_getI X fl_7_37 k_X_11_2 dX7_begin_82 ?_
  refine r_icmp_ge (tgt := 116) X dX7_begin_85 (by decide) (fun hc1 => ?_) (fun hc1 => ?_)
  · have hf := ite_yes hc1 hf
    refine r_perm (lv2 := []) [] rfl ?_
    exact hk116 _ hf
  · have hf := ite_no hc1 hf
    refine r_aload_n X 0 dX7_begin_88 rfl rfl ?_
    refine r_getR X fl_7_9 k_X_11_5 dX7_begin_89 ?_
    refine r_iload X 2 dX7_begin_92 rfl ?_
    refine r_aload_n X 1 dX7_begin_94 rfl rfl ?_
    refine r_getR X fl_7_65 k_X_7_3 dX7_begin_95 ?_
    refine r_iload X 2 dX7_begin_98 rfl ?_
    obtain ⟨hg2, hf⟩ := gd_some hf
    refine r_iald X a_X_10 hg2 dX7_begin_100 ?_
    obtain ⟨hg3, hf⟩ := gd_some hf
    refine r_iast X a_X_12 hg3 dX7_begin_101 ?_
    refine r_aload_n X 0 dX7_begin_102 rfl rfl ?_
    refine r_getR X fl_7_21 k_X_11_8 dX7_begin_103 ?_
    refine r_iload X 2 dX7_begin_106 rfl ?_
    refine r_iconst X dX7_begin_108 ?_
    obtain ⟨hg5, hf⟩ := gd_some hf
    refine r_iast X a_X_15 hg5 dX7_begin_109 ?_
    refine r_iinc (lv2 := [(4, mI (x4 + 1)), (0, .ref (ad 11)), (2, .ref (ad 7))]) X 2 dX7_begin_110 rfl (by decide) rfl ?_
    refine r_goto (tgt := 79) X dX7_begin_113 (by decide) ?_
    refine r_perm (lv2 := [(0, .ref (ad 11)), (2, .ref (ad 7)), (4, mI (x4 + 1))]) [1, 2, 0] rfl ?_
    exact hkc _ _ hf
set_option maxRecDepth 100000 in
set_option maxHeartbeats 4000000 in
theorem l_Plan_begin_79_ok {p : Program} {l : Launch} {e : Env} {s : State} {m : MethodId} {args : Array Value} {below : List Frame} {meth : Method} {c : Code} {D : va_G} {cy : Nat → ClassId} {ad : Nat → Nat} (X : CX p s m args meth c cX7_begin RX7 5 none D shX cy ad (aw shX ad)) {F : Nat} {k116 : St → Option (St)} {q : St} (hk116 : ∀ sg , k116 sg  = some q → GG p l e rm_Plan_begin s m args below meth c (QV D shX cy ad below args s q) D shX cy ad (aw shX ad) 5 116 [] [] sg) : ∀ (n : Nat) (sg : St) (x4 : Int), l_Plan_begin_79  F k116 n sg x4 = some q → GG p l e rm_Plan_begin s m args below meth c (QV D shX cy ad below args s q) D shX cy ad (aw shX ad) 5 79 [(0, .ref (ad 11)), (2, .ref (ad 7)), (4, mI x4)] [] sg := by
  intro n
  induction n with
  | zero => intro sg x4 h; cases h
  | succ n ih => exact fun sg x4 h => b_Plan_begin_79_ok X ih hk116 h
set_option maxRecDepth 100000 in
set_option maxHeartbeats 4000000 in
theorem b_Plan_begin_39_ok {p : Program} {l : Launch} {e : Env} {s : State} {m : MethodId} {args : Array Value} {below : List Frame} {meth : Method} {c : Code} {D : va_G} {cy : Nat → ClassId} {ad : Nat → Nat} (X : CX p s m args meth c cX7_begin RX7 5 none D shX cy ad (aw shX ad)) {F : Nat} {kc : St → Int → Option (St)} {k76 : St → Option (St)} {q : St} (hkc : ∀ sg x4, kc sg x4 = some q → GG p l e rm_Plan_begin s m args below meth c (QV D shX cy ad below args s q) D shX cy ad (aw shX ad) 5 39 [(0, .ref (ad 11)), (1, .ref (ad 1)), (2, .ref (ad 7)), (4, mI x4)] [] sg) (hk76 : ∀ sg , k76 sg  = some q → GG p l e rm_Plan_begin s m args below meth c (QV D shX cy ad below args s q) D shX cy ad (aw shX ad) 5 76 [(0, .ref (ad 11)), (2, .ref (ad 7))] [] sg) {sg : St} {x4 : Int} (hf : b_Plan_begin_39  F kc k76 sg x4 = some q) : GG p l e rm_Plan_begin s m args below meth c (QV D shX cy ad below args s q) D shX cy ad (aw shX ad) 5 39 [(0, .ref (ad 11)), (1, .ref (ad 1)), (2, .ref (ad 7)), (4, mI x4)] [] sg := by
  refine r_iload X 3 dX7_begin_39 rfl ?_
  refine r_aload_n X 0 dX7_begin_41 rfl rfl ?_
  refine r_getI X fl_7_33 k_X_11_1 dX7_begin_42 ?_
  refine r_icmp_ge (tgt := 76) X dX7_begin_45 (by decide) (fun hc1 => ?_) (fun hc1 => ?_)
  · have hf := ite_yes hc1 hf
    refine r_perm (lv2 := [(0, .ref (ad 11)), (2, .ref (ad 7))]) [0, 2] rfl ?_
    exact hk76 _ hf
  · have hf := ite_no hc1 hf
    refine r_aload_n X 0 dX7_begin_48 rfl rfl ?_
    refine r_getR X fl_7_15 k_X_11_6 dX7_begin_49 ?_
    refine r_iload X 3 dX7_begin_52 rfl ?_
    refine r_aload_n X 2 dX7_begin_54 rfl rfl ?_
    refine r_aload_n X 1 dX7_begin_55 rfl rfl ?_
    refine r_iload X 3 dX7_begin_56 rfl ?_
    obtain ⟨q2, hq2, hf⟩ := bd_some hf
    refine r_callVI X (As := [.ref (ad 1), mI x4]) (st := [mI x4, .ref (ad 13)]) (as := fun ad => [.ref (ad 7), .ref (ad 1), mI x4]) (c_Judges_allowedFor hq2) rfl yw_X4_allowedFor yv_X4_allowedFor ml_RX7_61 o_X_7 rfl rfl ⟨rfl, rfl⟩ ⟨Nat.le_of_ble_eq_true rfl, Nat.le_of_ble_eq_true rfl⟩ rfl rfl (Nat.le_of_ble_eq_true rfl) dX7_begin_58 ?_
    obtain ⟨hg3, hf⟩ := gd_some hf
    refine r_iast X a_X_13 hg3 dX7_begin_61 ?_
    refine r_aload_n X 0 dX7_begin_62 rfl rfl ?_
    refine r_getR X fl_7_18 k_X_11_7 dX7_begin_63 ?_
    refine r_iload X 3 dX7_begin_66 rfl ?_
    refine r_iconst X dX7_begin_68 ?_
    obtain ⟨hg5, hf⟩ := gd_some hf
    refine r_iast X a_X_14 hg5 dX7_begin_69 ?_
    refine r_iinc (lv2 := [(4, mI (x4 + 1)), (0, .ref (ad 11)), (1, .ref (ad 1)), (2, .ref (ad 7))]) X 3 dX7_begin_70 rfl (by decide) rfl ?_
    refine r_goto (tgt := 39) X dX7_begin_73 (by decide) ?_
    refine r_perm (lv2 := [(0, .ref (ad 11)), (1, .ref (ad 1)), (2, .ref (ad 7)), (4, mI (x4 + 1))]) [1, 2, 3, 0] rfl ?_
    exact hkc _ _ hf
set_option maxRecDepth 100000 in
set_option maxHeartbeats 4000000 in
theorem l_Plan_begin_39_ok {p : Program} {l : Launch} {e : Env} {s : State} {m : MethodId} {args : Array Value} {below : List Frame} {meth : Method} {c : Code} {D : va_G} {cy : Nat → ClassId} {ad : Nat → Nat} (X : CX p s m args meth c cX7_begin RX7 5 none D shX cy ad (aw shX ad)) {F : Nat} {k76 : St → Option (St)} {q : St} (hk76 : ∀ sg , k76 sg  = some q → GG p l e rm_Plan_begin s m args below meth c (QV D shX cy ad below args s q) D shX cy ad (aw shX ad) 5 76 [(0, .ref (ad 11)), (2, .ref (ad 7))] [] sg) : ∀ (n : Nat) (sg : St) (x4 : Int), l_Plan_begin_39  F k76 n sg x4 = some q → GG p l e rm_Plan_begin s m args below meth c (QV D shX cy ad below args s q) D shX cy ad (aw shX ad) 5 39 [(0, .ref (ad 11)), (1, .ref (ad 1)), (2, .ref (ad 7)), (4, mI x4)] [] sg := by
  intro n
  induction n with
  | zero => intro sg x4 h; cases h
  | succ n ih => exact fun sg x4 h => b_Plan_begin_39_ok X ih hk76 h
set_option maxRecDepth 100000 in
set_option maxHeartbeats 4000000 in
theorem c_Plan_begin {l : Launch} {F : Nat} {sg : St} {x3 : Int} {q : St} (hf : f_Plan_begin F  sg x3 = some q) : MV l shX yX7_begin cX7_begin 5 none rm_Plan_begin (fun ad => [.ref (ad 11), .ref (ad 1), .ref (ad 7), mI x3]) sg q := by
  refine mk_v (by decide) (fun _ => Nat.le_of_ble_eq_true rfl) (fun p e s m args below meth c D cy ad X => ?_)
  have X : CX p s m args meth c cX7_begin RX7 5 none D shX cy ad (aw shX ad) := X
  refine r_perm (lv2 := [(0, .ref (ad 11)), (1, .ref (ad 1)), (2, .ref (ad 7)), (3, mI x3)]) [0, 1, 2, 3] rfl ?_
  refine r_aload_n X 0 dX7_begin_0 rfl rfl ?_
  refine r_iconst X dX7_begin_1 ?_
  refine r_putI X fp_7_40 k_X_11_0 rfl rfl dX7_begin_2 ?_
  refine r_aload_n X 0 dX7_begin_5 rfl rfl ?_
  refine r_aload_n X 1 dX7_begin_6 rfl rfl ?_
  refine r_getI X fl_7_44 k_X_1_0 dX7_begin_7 ?_
  refine r_putI X fp_7_33 k_X_11_1 rfl rfl dX7_begin_10 ?_
  refine r_aload_n X 0 dX7_begin_13 rfl rfl ?_
  refine r_aload_n X 2 dX7_begin_14 rfl rfl ?_
  refine r_getI X fl_7_49 k_X_7_0 dX7_begin_15 ?_
  refine r_putI X fp_7_37 k_X_11_2 rfl rfl dX7_begin_18 ?_
  refine r_aload_n X 0 dX7_begin_21 rfl rfl ?_
  refine r_iload_n X 3 dX7_begin_22 rfl rfl ?_
  refine r_putI X fp_7_52 k_X_11_3 rfl rfl dX7_begin_23 ?_
  refine r_aload_n X 0 dX7_begin_26 rfl rfl ?_
  refine r_iconst X dX7_begin_27 ?_
  refine r_putI X fp_7_55 k_X_11_9 rfl rfl dX7_begin_28 ?_
  refine r_aload_n X 0 dX7_begin_31 rfl rfl ?_
  refine r_iconst X dX7_begin_32 ?_
  refine r_putI X fp_7_58 k_X_11_10 rfl rfl dX7_begin_33 ?_
  refine r_iconst X dX7_begin_36 ?_
  refine r_istore (lv2 := [(4, mI 0), (0, .ref (ad 11)), (1, .ref (ad 1)), (2, .ref (ad 7)), (3, mI x3)]) X dX7_begin_37 (by decide) rfl ?_
  refine r_perm (lv2 := [(0, .ref (ad 11)), (1, .ref (ad 1)), (2, .ref (ad 7)), (4, mI 0)]) [1, 2, 3, 0] rfl ?_
  refine l_Plan_begin_39_ok X ?_ F _ _ hf
  · intro s7  hf
    refine r_iconst X dX7_begin_76 ?_
    refine r_istore (lv2 := [(4, mI 0), (0, .ref (ad 11)), (2, .ref (ad 7))]) X dX7_begin_77 (by decide) rfl ?_
    refine r_perm (lv2 := [(0, .ref (ad 11)), (2, .ref (ad 7)), (4, mI 0)]) [1, 2, 0] rfl ?_
    refine l_Plan_begin_79_ok X ?_ F _ _ hf
    · intro s8  hf
      exact r_vreturn X hf dX7_begin_116
set_option maxRecDepth 100000 in
set_option maxHeartbeats 4000000 in
theorem b_Plan_lackInAll_4_ok {p : Program} {l : Launch} {e : Env} {s : State} {m : MethodId} {args : Array Value} {below : List Frame} {meth : Method} {c : Code} {D : va_G} {cy : Nat → ClassId} {ad : Nat → Nat} (X : CX p s m args meth c cX7_lackInAll RX7 3 (some .int) D shX cy ad (aw shX ad)) {F : Nat} {kc : St → Int → Int → Option (Int × St)} {k35 : St → Int → Option (Int × St)} {q : Int × St} (hkc : ∀ sg x1 x2, kc sg x1 x2 = some q → GG p l e rm_Plan_lackInAll s m args below meth c (QI D shX cy ad below args s q) D shX cy ad (aw shX ad) 3 4 [(0, .ref (ad 11)), (1, mI x1), (2, mI x2)] [] sg) (hk35 : ∀ sg x1, k35 sg x1 = some q → GG p l e rm_Plan_lackInAll s m args below meth c (QI D shX cy ad below args s q) D shX cy ad (aw shX ad) 3 35 [(1, mI x1)] [] sg) {sg : St} {x1 x2 : Int} (hf : b_Plan_lackInAll_4  F kc k35 sg x1 x2 = some q) : GG p l e rm_Plan_lackInAll s m args below meth c (QI D shX cy ad below args s q) D shX cy ad (aw shX ad) 3 4 [(0, .ref (ad 11)), (1, mI x1), (2, mI x2)] [] sg := by
  refine r_iload_n X 2 dX7_lackInAll_4 rfl rfl ?_
  refine r_aload_n X 0 dX7_lackInAll_5 rfl rfl ?_
  refine r_getI X fl_7_33 k_X_11_1 dX7_lackInAll_6 ?_
  refine r_icmp_ge (tgt := 35) X dX7_lackInAll_9 (by decide) (fun hc1 => ?_) (fun hc1 => ?_)
  · have hf := ite_yes hc1 hf
    refine r_perm (lv2 := [(1, mI x1)]) [1] rfl ?_
    exact hk35 _ _ hf
  · have hf := ite_no hc1 hf
    refine r_iload_n X 1 dX7_lackInAll_12 rfl rfl ?_
    refine r_aload_n X 0 dX7_lackInAll_13 rfl rfl ?_
    refine r_getI X fl_7_52 k_X_11_3 dX7_lackInAll_14 ?_
    refine r_aload_n X 0 dX7_lackInAll_17 rfl rfl ?_
    refine r_getR X fl_7_18 k_X_11_7 dX7_lackInAll_18 ?_
    refine r_iload_n X 2 dX7_lackInAll_21 rfl rfl ?_
    obtain ⟨hg2, hf⟩ := gd_some hf
    refine r_iald X a_X_14 hg2 dX7_lackInAll_22 ?_
    obtain ⟨q3, hq3, hf⟩ := bd_some hf
    refine r_callSI X (As := [mI (sg 14 (ix x2))]) (st := [mI (sg 11 3), mI x1]) (as := fun ad => [mI (sg 14 (ix x2))]) (c_XJ_bitCount hq3) rfl yw_J6_bitCount_0f7a4 ys_J6_bitCount_0f7a4 ml_RX7_84 ⟨rfl, rfl⟩ ⟨Nat.le_of_ble_eq_true rfl, Nat.le_of_ble_eq_true rfl⟩ rfl rfl (Nat.le_of_ble_eq_true rfl) dX7_lackInAll_23 ?_
    refine r_isub X dX7_lackInAll_26 ?_
    refine r_iadd X dX7_lackInAll_27 ?_
    refine r_istore_n (lv2 := [(1, mI (x1 + ((sg 11 3) - q3.1))), (0, .ref (ad 11)), (2, mI x2)]) X dX7_lackInAll_28 rfl (by decide) rfl ?_
    refine r_iinc (lv2 := [(2, mI (x2 + 1)), (1, mI (x1 + ((sg 11 3) - q3.1))), (0, .ref (ad 11))]) X 2 dX7_lackInAll_29 rfl (by decide) rfl ?_
    refine r_goto (tgt := 4) X dX7_lackInAll_32 (by decide) ?_
    refine r_perm (lv2 := [(0, .ref (ad 11)), (1, mI (x1 + ((sg 11 3) - q3.1))), (2, mI (x2 + 1))]) [2, 1, 0] rfl ?_
    exact hkc _ _ _ hf
set_option maxRecDepth 100000 in
set_option maxHeartbeats 4000000 in
theorem l_Plan_lackInAll_4_ok {p : Program} {l : Launch} {e : Env} {s : State} {m : MethodId} {args : Array Value} {below : List Frame} {meth : Method} {c : Code} {D : va_G} {cy : Nat → ClassId} {ad : Nat → Nat} (X : CX p s m args meth c cX7_lackInAll RX7 3 (some .int) D shX cy ad (aw shX ad)) {F : Nat} {k35 : St → Int → Option (Int × St)} {q : Int × St} (hk35 : ∀ sg x1, k35 sg x1 = some q → GG p l e rm_Plan_lackInAll s m args below meth c (QI D shX cy ad below args s q) D shX cy ad (aw shX ad) 3 35 [(1, mI x1)] [] sg) : ∀ (n : Nat) (sg : St) (x1 x2 : Int), l_Plan_lackInAll_4  F k35 n sg x1 x2 = some q → GG p l e rm_Plan_lackInAll s m args below meth c (QI D shX cy ad below args s q) D shX cy ad (aw shX ad) 3 4 [(0, .ref (ad 11)), (1, mI x1), (2, mI x2)] [] sg := by
  intro n
  induction n with
  | zero => intro sg x1 x2 h; cases h
  | succ n ih => exact fun sg x1 x2 h => b_Plan_lackInAll_4_ok X ih hk35 h
set_option maxRecDepth 100000 in
set_option maxHeartbeats 4000000 in
theorem c_Plan_lackInAll {l : Launch} {F : Nat} {sg : St} {q : Int × St} (hf : f_Plan_lackInAll F  sg  = some q) : MI l shX yX7_lackInAll cX7_lackInAll 3 (some .int) rm_Plan_lackInAll (fun ad => [.ref (ad 11)]) sg q.2 q.1 := by
  refine mk_i (by decide) (fun _ => Nat.le_of_ble_eq_true rfl) (fun p e s m args below meth c D cy ad X => ?_)
  have X : CX p s m args meth c cX7_lackInAll RX7 3 (some .int) D shX cy ad (aw shX ad) := X
  refine r_perm (lv2 := [(0, .ref (ad 11))]) [0] rfl ?_
  refine r_iconst X dX7_lackInAll_0 ?_
  refine r_istore_n (lv2 := [(1, mI 0), (0, .ref (ad 11))]) X dX7_lackInAll_1 rfl (by decide) rfl ?_
  refine r_iconst X dX7_lackInAll_2 ?_
  refine r_istore_n (lv2 := [(2, mI 0), (1, mI 0), (0, .ref (ad 11))]) X dX7_lackInAll_3 rfl (by decide) rfl ?_
  refine r_perm (lv2 := [(0, .ref (ad 11)), (1, mI 0), (2, mI 0)]) [2, 1, 0] rfl ?_
  refine l_Plan_lackInAll_4_ok X ?_ F _ _ _ hf
  · intro s1 x1_2 hf
    refine r_iload_n X 0 dX7_lackInAll_35 rfl rfl ?_
    exact r_ireturn X hf dX7_lackInAll_36
set_option maxRecDepth 100000 in
set_option maxHeartbeats 4000000 in
theorem c_Plan_reach {l : Launch} {sg : St} {x1 x2 : Int} {q : St} (hf : f_Plan_reach  sg x1 x2 = some q) : MV l shX yX7_reach cX7_reach 3 none rm_Plan_reach (fun ad => [.ref (ad 11), mI x1, mI x2]) sg q := by
  refine mk_v (by decide) (fun _ => Nat.le_of_ble_eq_true rfl) (fun p e s m args below meth c D cy ad X => ?_)
  have X : CX p s m args meth c cX7_reach RX7 3 none D shX cy ad (aw shX ad) := X
  refine r_perm (lv2 := [(0, .ref (ad 11)), (1, mI x1), (2, mI x2)]) [0, 1, 2] rfl ?_
  refine r_aload_n X 0 dX7_reach_0 rfl rfl ?_
  refine r_getI X fl_7_115 k_X_11_13 dX7_reach_1 ?_
  refine r_bipush X dX7_reach_4 (by decide) ?_
  refine r_icmp_ge (tgt := 48) X dX7_reach_6 (by decide) (fun hc1 => ?_) (fun hc1 => ?_)
  · have hf := ite_yes hc1 hf
    exact r_vreturn X hf dX7_reach_48
  · have hf := ite_no hc1 hf
    refine r_aload_n X 0 dX7_reach_9 rfl rfl ?_
    refine r_dup X dX7_reach_10 rfl ?_
    refine r_getI X fl_7_78 k_X_11_11 dX7_reach_11 ?_
    refine r_iconst X dX7_reach_14 ?_
    refine r_iload_n X 1 dX7_reach_15 rfl rfl ?_
    refine r_ishl X dX7_reach_16 ?_
    refine r_ior X dX7_reach_17 ?_
    refine r_putI X fp_7_78 k_X_11_11 rfl rfl dX7_reach_18 ?_
    refine r_aload_n X 0 dX7_reach_21 rfl rfl ?_
    refine r_getR X fl_7_27 k_X_11_15 dX7_reach_22 ?_
    refine r_iload_n X 1 dX7_reach_25 rfl rfl ?_
    refine r_iload_n X 2 dX7_reach_26 rfl rfl ?_
    obtain ⟨hg3, hf⟩ := gd_some hf
    refine r_iast X a_X_17 hg3 dX7_reach_27 ?_
    refine r_aload_n X 0 dX7_reach_28 rfl rfl ?_
    refine r_getR X fl_7_24 k_X_11_14 dX7_reach_29 ?_
    refine r_aload_n X 0 dX7_reach_32 rfl rfl ?_
    refine r_getI X fl_7_115 k_X_11_13 dX7_reach_33 ?_
    refine r_iload_n X 1 dX7_reach_36 rfl rfl ?_
    obtain ⟨hg5, hf⟩ := gd_some hf
    refine r_iast X a_X_16 hg5 dX7_reach_37 ?_
    refine r_aload_n X 0 dX7_reach_38 rfl rfl ?_
    refine r_dup X dX7_reach_39 rfl ?_
    refine r_getI X fl_7_115 k_X_11_13 dX7_reach_40 ?_
    refine r_iconst X dX7_reach_43 ?_
    refine r_iadd X dX7_reach_44 ?_
    refine r_putI X fp_7_115 k_X_11_13 rfl rfl dX7_reach_45 ?_
    exact r_vreturn X hf dX7_reach_48
set_option maxRecDepth 100000 in
set_option maxHeartbeats 4000000 in
theorem c_Plan_lacks {l : Launch} {sg : St} {x1 : Int} {q : Int × St} (hf : f_Plan_lacks  sg x1 = some q) : MI l shX yX7_lacks cX7_lacks 2 (some .boolean) rm_Plan_lacks (fun ad => [.ref (ad 11), mI x1]) sg q.2 q.1 := by
  refine mk_i (by decide) (fun _ => Nat.le_of_ble_eq_true rfl) (fun p e s m args below meth c D cy ad X => ?_)
  have X : CX p s m args meth c cX7_lacks RX7 2 (some .boolean) D shX cy ad (aw shX ad) := X
  refine r_perm (lv2 := [(0, .ref (ad 11)), (1, mI x1)]) [0, 1] rfl ?_
  refine r_aload_n X 0 dX7_lacks_0 rfl rfl ?_
  refine r_getR X fl_7_18 k_X_11_7 dX7_lacks_1 ?_
  refine r_iload_n X 1 dX7_lacks_4 rfl rfl ?_
  obtain ⟨hg1, hf⟩ := gd_some hf
  refine r_iald X a_X_14 hg1 dX7_lacks_5 ?_
  obtain ⟨q2, hq2, hf⟩ := bd_some hf
  refine r_callSI X (As := [mI (sg 14 (ix x1))]) (st := []) (as := fun ad => [mI (sg 14 (ix x1))]) (c_XJ_bitCount hq2) rfl yw_J6_bitCount_0f7a4 ys_J6_bitCount_0f7a4 ml_RX7_84 ⟨rfl, rfl⟩ ⟨Nat.le_of_ble_eq_true rfl, Nat.le_of_ble_eq_true rfl⟩ rfl rfl (Nat.le_of_ble_eq_true rfl) dX7_lacks_6 ?_
  refine r_aload_n X 0 dX7_lacks_9 rfl rfl ?_
  refine r_getI X fl_7_52 k_X_11_3 dX7_lacks_10 ?_
  refine r_icmp_ge (tgt := 20) X dX7_lacks_13 (by decide) (fun hc3 => ?_) (fun hc3 => ?_)
  · have hf := ite_yes hc3 hf
    refine r_iconst X dX7_lacks_20 ?_
    exact r_zreturn X hf rfl dX7_lacks_21
  · have hf := ite_no hc3 hf
    refine r_iconst X dX7_lacks_16 ?_
    refine r_goto (tgt := 21) X dX7_lacks_17 (by decide) ?_
    exact r_zreturn X hf rfl dX7_lacks_21
set_option maxRecDepth 100000 in
set_option maxHeartbeats 4000000 in
theorem c_Plan_hasRoom {l : Launch} {sg : St} {x1 : Int} {q : Int × St} (hf : f_Plan_hasRoom  sg x1 = some q) : MI l shX yX7_hasRoom cX7_hasRoom 2 (some .boolean) rm_Plan_hasRoom (fun ad => [.ref (ad 11), mI x1]) sg q.2 q.1 := by
  refine mk_i (by decide) (fun _ => Nat.le_of_ble_eq_true rfl) (fun p e s m args below meth c D cy ad X => ?_)
  have X : CX p s m args meth c cX7_hasRoom RX7 2 (some .boolean) D shX cy ad (aw shX ad) := X
  refine r_perm (lv2 := [(0, .ref (ad 11)), (1, mI x1)]) [0, 1] rfl ?_
  refine r_aload_n X 0 dX7_hasRoom_0 rfl rfl ?_
  refine r_getR X fl_7_21 k_X_11_8 dX7_hasRoom_1 ?_
  refine r_iload_n X 1 dX7_hasRoom_4 rfl rfl ?_
  obtain ⟨hg1, hf⟩ := gd_some hf
  refine r_iald X a_X_15 hg1 dX7_hasRoom_5 ?_
  obtain ⟨q2, hq2, hf⟩ := bd_some hf
  refine r_callSI X (As := [mI (sg 15 (ix x1))]) (st := []) (as := fun ad => [mI (sg 15 (ix x1))]) (c_XJ_bitCount hq2) rfl yw_J6_bitCount_0f7a4 ys_J6_bitCount_0f7a4 ml_RX7_84 ⟨rfl, rfl⟩ ⟨Nat.le_of_ble_eq_true rfl, Nat.le_of_ble_eq_true rfl⟩ rfl rfl (Nat.le_of_ble_eq_true rfl) dX7_hasRoom_6 ?_
  refine r_aload_n X 0 dX7_hasRoom_9 rfl rfl ?_
  refine r_getR X fl_7_9 k_X_11_5 dX7_hasRoom_10 ?_
  refine r_iload_n X 1 dX7_hasRoom_13 rfl rfl ?_
  obtain ⟨hg3, hf⟩ := gd_some hf
  refine r_iald X a_X_12 hg3 dX7_hasRoom_14 ?_
  refine r_icmp_ge (tgt := 22) X dX7_hasRoom_15 (by decide) (fun hc4 => ?_) (fun hc4 => ?_)
  · have hf := ite_yes hc4 hf
    refine r_iconst X dX7_hasRoom_22 ?_
    exact r_zreturn X hf rfl dX7_hasRoom_23
  · have hf := ite_no hc4 hf
    refine r_iconst X dX7_hasRoom_18 ?_
    refine r_goto (tgt := 23) X dX7_hasRoom_19 (by decide) ?_
    exact r_zreturn X hf rfl dX7_hasRoom_23
set_option maxRecDepth 100000 in
set_option maxHeartbeats 4000000 in
theorem c_Plan_openJudges {l : Launch} {sg : St} {x1 : Int} {q : Int × St} (hf : f_Plan_openJudges  sg x1 = some q) : MI l shX yX7_openJudges cX7_openJudges 2 (some .int) rm_Plan_openJudges (fun ad => [.ref (ad 11), mI x1]) sg q.2 q.1 := by
  refine mk_i (by decide) (fun _ => Nat.le_of_ble_eq_true rfl) (fun p e s m args below meth c D cy ad X => ?_)
  have X : CX p s m args meth c cX7_openJudges RX7 2 (some .int) D shX cy ad (aw shX ad) := X
  refine r_perm (lv2 := [(0, .ref (ad 11)), (1, mI x1)]) [0, 1] rfl ?_
  refine r_iload_n X 1 dX7_openJudges_0 rfl rfl ?_
  refine r_aload_n X 0 dX7_openJudges_1 rfl rfl ?_
  refine r_getI X fl_7_55 k_X_11_9 dX7_openJudges_2 ?_
  refine r_icmp_ge (tgt := 10) X dX7_openJudges_5 (by decide) (fun hc1 => ?_) (fun hc1 => ?_)
  · have hf := ite_yes hc1 hf
    refine r_iload_n X 1 dX7_openJudges_10 rfl rfl ?_
    refine r_aload_n X 0 dX7_openJudges_11 rfl rfl ?_
    refine r_getI X fl_7_55 k_X_11_9 dX7_openJudges_12 ?_
    refine r_icmp_le (tgt := 22) X dX7_openJudges_15 (by decide) (fun hc2 => ?_) (fun hc2 => ?_)
    · have hf := ite_yes hc2 hf
      refine r_iconst X dX7_openJudges_22 ?_
      refine r_aload_n X 0 dX7_openJudges_23 rfl rfl ?_
      refine r_getI X fl_7_58 k_X_11_10 dX7_openJudges_24 ?_
      refine r_ishl X dX7_openJudges_27 ?_
      exact r_ireturn X hf dX7_openJudges_28
    · have hf := ite_no hc2 hf
      refine r_iconst X dX7_openJudges_18 ?_
      refine r_goto (tgt := 28) X dX7_openJudges_19 (by decide) ?_
      exact r_ireturn X hf dX7_openJudges_28
  · have hf := ite_no hc1 hf
    refine r_iconst X dX7_openJudges_8 ?_
    exact r_ireturn X hf dX7_openJudges_9
set_option maxRecDepth 100000 in
set_option maxHeartbeats 4000000 in
theorem c_Plan_openBoards {l : Launch} {sg : St} {x1 : Int} {q : Int × St} (hf : f_Plan_openBoards  sg x1 = some q) : MI l shX yX7_openBoards cX7_openBoards 2 (some .int) rm_Plan_openBoards (fun ad => [.ref (ad 11), mI x1]) sg q.2 q.1 := by
  refine mk_i (by decide) (fun _ => Nat.le_of_ble_eq_true rfl) (fun p e s m args below meth c D cy ad X => ?_)
  have X : CX p s m args meth c cX7_openBoards RX7 2 (some .int) D shX cy ad (aw shX ad) := X
  refine r_perm (lv2 := [(0, .ref (ad 11)), (1, mI x1)]) [0, 1] rfl ?_
  refine r_iload_n X 1 dX7_openBoards_0 rfl rfl ?_
  refine r_aload_n X 0 dX7_openBoards_1 rfl rfl ?_
  refine r_getI X fl_7_58 k_X_11_10 dX7_openBoards_2 ?_
  refine r_icmp_ge (tgt := 19) X dX7_openBoards_5 (by decide) (fun hc1 => ?_) (fun hc1 => ?_)
  · have hf := ite_yes hc1 hf
    refine r_iconst X dX7_openBoards_19 ?_
    refine r_aload_n X 0 dX7_openBoards_20 rfl rfl ?_
    refine r_getI X fl_7_55 k_X_11_9 dX7_openBoards_21 ?_
    refine r_ishl X dX7_openBoards_24 ?_
    exact r_ireturn X hf dX7_openBoards_25
  · have hf := ite_no hc1 hf
    refine r_iconst X dX7_openBoards_8 ?_
    refine r_aload_n X 0 dX7_openBoards_9 rfl rfl ?_
    refine r_getI X fl_7_55 k_X_11_9 dX7_openBoards_10 ?_
    refine r_iconst X dX7_openBoards_13 ?_
    refine r_iadd X dX7_openBoards_14 ?_
    refine r_ishl X dX7_openBoards_15 ?_
    refine r_goto (tgt := 25) X dX7_openBoards_16 (by decide) ?_
    exact r_ireturn X hf dX7_openBoards_25
set_option maxRecDepth 100000 in
set_option maxHeartbeats 4000000 in
theorem c_Plan_join {l : Launch} {sg : St} {x1 x2 : Int} {q : St} (hf : f_Plan_join  sg x1 x2 = some q) : MV l shX yX7_join cX7_join 3 none rm_Plan_join (fun ad => [.ref (ad 11), mI x1, mI x2]) sg q := by
  refine mk_v (by decide) (fun _ => Nat.le_of_ble_eq_true rfl) (fun p e s m args below meth c D cy ad X => ?_)
  have X : CX p s m args meth c cX7_join RX7 3 none D shX cy ad (aw shX ad) := X
  refine r_perm (lv2 := [(0, .ref (ad 11)), (1, mI x1), (2, mI x2)]) [0, 1, 2] rfl ?_
  refine r_aload_n X 0 dX7_join_0 rfl rfl ?_
  refine r_getR X fl_7_18 k_X_11_7 dX7_join_1 ?_
  refine r_iload_n X 1 dX7_join_4 rfl rfl ?_
  refine r_dup2 X dX7_join_5 rfl rfl ?_
  obtain ⟨hg1, hf⟩ := gd_some hf
  refine r_iald X a_X_14 hg1 dX7_join_6 ?_
  refine r_iconst X dX7_join_7 ?_
  refine r_iload_n X 2 dX7_join_8 rfl rfl ?_
  refine r_ishl X dX7_join_9 ?_
  refine r_ior X dX7_join_10 ?_
  obtain ⟨hg2, hf⟩ := gd_some hf
  refine r_iast X a_X_14 hg2 dX7_join_11 ?_
  refine r_aload_n X 0 dX7_join_12 rfl rfl ?_
  refine r_getR X fl_7_21 k_X_11_8 dX7_join_13 ?_
  refine r_iload_n X 2 dX7_join_16 rfl rfl ?_
  refine r_dup2 X dX7_join_17 rfl rfl ?_
  obtain ⟨hg4, hf⟩ := gd_some hf
  refine r_iald X a_X_15 hg4 dX7_join_18 ?_
  refine r_iconst X dX7_join_19 ?_
  refine r_iload_n X 1 dX7_join_20 rfl rfl ?_
  refine r_ishl X dX7_join_21 ?_
  refine r_ior X dX7_join_22 ?_
  obtain ⟨hg5, hf⟩ := gd_some hf
  refine r_iast X a_X_15 hg5 dX7_join_23 ?_
  exact r_vreturn X hf dX7_join_24
set_option maxRecDepth 100000 in
set_option maxHeartbeats 4000000 in
theorem c_Plan_part {l : Launch} {sg : St} {x1 x2 : Int} {q : St} (hf : f_Plan_part  sg x1 x2 = some q) : MV l shX yX7_part cX7_part 3 none rm_Plan_part (fun ad => [.ref (ad 11), mI x1, mI x2]) sg q := by
  refine mk_v (by decide) (fun _ => Nat.le_of_ble_eq_true rfl) (fun p e s m args below meth c D cy ad X => ?_)
  have X : CX p s m args meth c cX7_part RX7 3 none D shX cy ad (aw shX ad) := X
  refine r_perm (lv2 := [(0, .ref (ad 11)), (1, mI x1), (2, mI x2)]) [0, 1, 2] rfl ?_
  refine r_aload_n X 0 dX7_part_0 rfl rfl ?_
  refine r_getR X fl_7_18 k_X_11_7 dX7_part_1 ?_
  refine r_iload_n X 1 dX7_part_4 rfl rfl ?_
  refine r_dup2 X dX7_part_5 rfl rfl ?_
  obtain ⟨hg1, hf⟩ := gd_some hf
  refine r_iald X a_X_14 hg1 dX7_part_6 ?_
  refine r_iconst X dX7_part_7 ?_
  refine r_iload_n X 2 dX7_part_8 rfl rfl ?_
  refine r_ishl X dX7_part_9 ?_
  refine r_iconst X dX7_part_10 ?_
  refine r_ixor X dX7_part_11 ?_
  refine r_iand X dX7_part_12 ?_
  obtain ⟨hg2, hf⟩ := gd_some hf
  refine r_iast X a_X_14 hg2 dX7_part_13 ?_
  refine r_aload_n X 0 dX7_part_14 rfl rfl ?_
  refine r_getR X fl_7_21 k_X_11_8 dX7_part_15 ?_
  refine r_iload_n X 2 dX7_part_18 rfl rfl ?_
  refine r_dup2 X dX7_part_19 rfl rfl ?_
  obtain ⟨hg4, hf⟩ := gd_some hf
  refine r_iald X a_X_15 hg4 dX7_part_20 ?_
  refine r_iconst X dX7_part_21 ?_
  refine r_iload_n X 1 dX7_part_22 rfl rfl ?_
  refine r_ishl X dX7_part_23 ?_
  refine r_iconst X dX7_part_24 ?_
  refine r_ixor X dX7_part_25 ?_
  refine r_iand X dX7_part_26 ?_
  obtain ⟨hg5, hf⟩ := gd_some hf
  refine r_iast X a_X_15 hg5 dX7_part_27 ?_
  exact r_vreturn X hf dX7_part_28
set_option maxRecDepth 100000 in
set_option maxHeartbeats 4000000 in
theorem c_Prize_has {l : Launch} {cp : Nat} (hcp : PRc cp) {sg : St} {x1 : Int} {q : Int × St} (hf : f_Prize_has cp sg x1 = some q) : MI l shX yX8_has cX8_has 2 (some .boolean) rm_Prize_has (fun ad => [.ref (ad cp), mI x1]) sg q.2 q.1 := by
  refine mk_i (by decide) (fun _ => Nat.le_of_ble_eq_true rfl) (fun p e s m args below meth c D cy ad X => ?_)
  have X : CX p s m args meth c cX8_has RX8 2 (some .boolean) D shX cy ad (aw shX ad) := X
  refine r_perm (lv2 := [(0, .ref (ad cp)), (1, mI x1)]) [0, 1] rfl ?_
  refine r_iload_n X 1 dX8_has_0 rfl rfl ?_
  refine r_if_lt (tgt := 16) X dX8_has_1 (by decide) (fun hc1 => ?_) (fun hc1 => ?_)
  · have hf := ite_yes hc1 hf
    refine r_iconst X dX8_has_16 ?_
    exact r_zreturn X hf rfl dX8_has_17
  · have hf := ite_no hc1 hf
    refine r_iload_n X 1 dX8_has_4 rfl rfl ?_
    refine r_aload_n X 0 dX8_has_5 rfl rfl ?_
    refine r_getI X fl_8_24 (pr_k0 hcp) dX8_has_6 ?_
    refine r_icmp_ge (tgt := 16) X dX8_has_9 (by decide) (fun hc2 => ?_) (fun hc2 => ?_)
    · have hf := ite_yes hc2 hf
      refine r_iconst X dX8_has_16 ?_
      exact r_zreturn X hf rfl dX8_has_17
    · have hf := ite_no hc2 hf
      refine r_iconst X dX8_has_12 ?_
      refine r_goto (tgt := 17) X dX8_has_13 (by decide) ?_
      exact r_zreturn X hf rfl dX8_has_17
set_option maxRecDepth 100000 in
set_option maxHeartbeats 4000000 in
theorem b_Prize_addEmpty_11_ok {p : Program} {l : Launch} {e : Env} {s : State} {m : MethodId} {args : Array Value} {below : List Frame} {meth : Method} {c : Code} {D : va_G} {cy : Nat → ClassId} {ad : Nat → Nat} (X : CX p s m args meth c cX8_addEmpty RX8 2 none D shX cy ad (aw shX ad)) {cp : Nat} (hcp : PRc cp) {F : Nat} {kc : St → Int → Option (St)} {k34 : St → Option (St)} {q : St} (hkc : ∀ sg x1, kc sg x1 = some q → GG p l e rm_Prize_addEmpty s m args below meth c (QV D shX cy ad below args s q) D shX cy ad (aw shX ad) 2 11 [(0, .ref (ad cp)), (1, mI x1)] [] sg) (hk34 : ∀ sg , k34 sg  = some q → GG p l e rm_Prize_addEmpty s m args below meth c (QV D shX cy ad below args s q) D shX cy ad (aw shX ad) 2 34 [(0, .ref (ad cp))] [] sg) {sg : St} {x1 : Int} (hf : b_Prize_addEmpty_11 cp F kc k34 sg x1 = some q) : GG p l e rm_Prize_addEmpty s m args below meth c (QV D shX cy ad below args s q) D shX cy ad (aw shX ad) 2 11 [(0, .ref (ad cp)), (1, mI x1)] [] sg := by
  refine r_iload_n X 1 dX8_addEmpty_11 rfl rfl ?_
  refine r_iconst X dX8_addEmpty_12 ?_
  refine r_icmp_ge (tgt := 34) X dX8_addEmpty_13 (by decide) (fun hc1 => ?_) (fun hc1 => ?_)
  · have hf := ite_yes hc1 hf
    refine r_perm (lv2 := [(0, .ref (ad cp))]) [0] rfl ?_
    exact hk34 _ hf
  · have hf := ite_no hc1 hf
    refine r_aload_n X 0 dX8_addEmpty_16 rfl rfl ?_
    refine r_getR X fl_8_21 (pr_k3 hcp) dX8_addEmpty_17 ?_
    refine r_iload_n X 1 dX8_addEmpty_20 rfl rfl ?_
    obtain ⟨hg2, hf⟩ := gd_some hf
    refine r_aaldI X (pr_a3 hcp) hg2 dX8_addEmpty_21 ?_
    refine r_aload_n X 0 dX8_addEmpty_22 rfl rfl ?_
    refine r_getI X fl_8_24 (pr_k0 hcp) dX8_addEmpty_23 ?_
    refine r_iconst X dX8_addEmpty_26 ?_
    obtain ⟨hg3, hf⟩ := gd_some hf
    refine r_iast X (pr_a4 hcp (inb_ix hg2)) hg3 dX8_addEmpty_27 ?_
    refine r_iinc (lv2 := [(1, mI (x1 + 1)), (0, .ref (ad cp))]) X 1 dX8_addEmpty_28 rfl (by decide) rfl ?_
    refine r_goto (tgt := 11) X dX8_addEmpty_31 (by decide) ?_
    refine r_perm (lv2 := [(0, .ref (ad cp)), (1, mI (x1 + 1))]) [1, 0] rfl ?_
    exact hkc _ _ hf
set_option maxRecDepth 100000 in
set_option maxHeartbeats 4000000 in
theorem l_Prize_addEmpty_11_ok {p : Program} {l : Launch} {e : Env} {s : State} {m : MethodId} {args : Array Value} {below : List Frame} {meth : Method} {c : Code} {D : va_G} {cy : Nat → ClassId} {ad : Nat → Nat} (X : CX p s m args meth c cX8_addEmpty RX8 2 none D shX cy ad (aw shX ad)) {cp : Nat} (hcp : PRc cp) {F : Nat} {k34 : St → Option (St)} {q : St} (hk34 : ∀ sg , k34 sg  = some q → GG p l e rm_Prize_addEmpty s m args below meth c (QV D shX cy ad below args s q) D shX cy ad (aw shX ad) 2 34 [(0, .ref (ad cp))] [] sg) : ∀ (n : Nat) (sg : St) (x1 : Int), l_Prize_addEmpty_11 cp F k34 n sg x1 = some q → GG p l e rm_Prize_addEmpty s m args below meth c (QV D shX cy ad below args s q) D shX cy ad (aw shX ad) 2 11 [(0, .ref (ad cp)), (1, mI x1)] [] sg := by
  intro n
  induction n with
  | zero => intro sg x1 h; cases h
  | succ n ih => exact fun sg x1 h => b_Prize_addEmpty_11_ok X hcp ih hk34 h
set_option maxRecDepth 100000 in
set_option maxHeartbeats 4000000 in
theorem c_Prize_addEmpty {l : Launch} {F : Nat} {cp : Nat} (hcp : PRc cp) {sg : St} {q : St} (hf : f_Prize_addEmpty F cp sg  = some q) : MV l shX yX8_addEmpty cX8_addEmpty 2 none rm_Prize_addEmpty (fun ad => [.ref (ad cp)]) sg q := by
  refine mk_v (by decide) (fun _ => Nat.le_of_ble_eq_true rfl) (fun p e s m args below meth c D cy ad X => ?_)
  have X : CX p s m args meth c cX8_addEmpty RX8 2 none D shX cy ad (aw shX ad) := X
  refine r_perm (lv2 := [(0, .ref (ad cp))]) [0] rfl ?_
  refine r_aload_n X 0 dX8_addEmpty_0 rfl rfl ?_
  refine r_getI X fl_8_24 (pr_k0 hcp) dX8_addEmpty_1 ?_
  refine r_bipush X dX8_addEmpty_4 (by decide) ?_
  refine r_icmp_ge (tgt := 54) X dX8_addEmpty_6 (by decide) (fun hc1 => ?_) (fun hc1 => ?_)
  · have hf := ite_yes hc1 hf
    exact r_vreturn X hf dX8_addEmpty_54
  · have hf := ite_no hc1 hf
    refine r_iconst X dX8_addEmpty_9 ?_
    refine r_istore_n (lv2 := [(1, mI 0), (0, .ref (ad cp))]) X dX8_addEmpty_10 rfl (by decide) rfl ?_
    refine r_perm (lv2 := [(0, .ref (ad cp)), (1, mI 0)]) [1, 0] rfl ?_
    refine l_Prize_addEmpty_11_ok X hcp ?_ F _ _ hf
    · intro s2  hf
      refine r_aload_n X 0 dX8_addEmpty_34 rfl rfl ?_
      refine r_getR X fl_8_15 (pr_k2 hcp) dX8_addEmpty_35 ?_
      refine r_aload_n X 0 dX8_addEmpty_38 rfl rfl ?_
      refine r_getI X fl_8_24 (pr_k0 hcp) dX8_addEmpty_39 ?_
      refine r_iconst X dX8_addEmpty_42 ?_
      obtain ⟨hg3, hf⟩ := gd_some hf
      refine r_zast X (pr_a2 hcp) hg3 dX8_addEmpty_43 ?_
      refine r_aload_n X 0 dX8_addEmpty_44 rfl rfl ?_
      refine r_dup X dX8_addEmpty_45 rfl ?_
      refine r_getI X fl_8_24 (pr_k0 hcp) dX8_addEmpty_46 ?_
      refine r_iconst X dX8_addEmpty_49 ?_
      refine r_iadd X dX8_addEmpty_50 ?_
      refine r_putI X fp_8_24 (pr_k0 hcp) rfl rfl dX8_addEmpty_51 ?_
      exact r_vreturn X hf dX8_addEmpty_54
set_option maxRecDepth 100000 in
set_option maxHeartbeats 4000000 in
theorem c_Prize_meets {l : Launch} {cp : Nat} (hcp : PRc cp) {sg : St} {x1 x2 x3 : Int} {q : Int × St} (hf : f_Prize_meets cp sg x1 x2 x3 = some q) : MI l shX yX8_meets cX8_meets 4 (some .boolean) rm_Prize_meets (fun ad => [.ref (ad cp), mI x1, mI x2, mI x3]) sg q.2 q.1 := by
  refine mk_i (by decide) (fun _ => Nat.le_of_ble_eq_true rfl) (fun p e s m args below meth c D cy ad X => ?_)
  have X : CX p s m args meth c cX8_meets RX8 4 (some .boolean) D shX cy ad (aw shX ad) := X
  refine r_perm (lv2 := [(0, .ref (ad cp)), (1, mI x1), (2, mI x2), (3, mI x3)]) [0, 1, 2, 3] rfl ?_
  refine r_aload_n X 0 dX8_meets_0 rfl rfl ?_
  refine r_getR X fl_8_21 (pr_k3 hcp) dX8_meets_1 ?_
  refine r_iload_n X 1 dX8_meets_4 rfl rfl ?_
  obtain ⟨hg1, hf⟩ := gd_some hf
  refine r_aaldI X (pr_a3 hcp) hg1 dX8_meets_5 ?_
  refine r_iload_n X 2 dX8_meets_6 rfl rfl ?_
  obtain ⟨hg2, hf⟩ := gd_some hf
  refine r_iald X (pr_a4 hcp (inb_ix hg1)) hg2 dX8_meets_7 ?_
  refine r_iconst X dX8_meets_8 ?_
  refine r_icmp_eq (tgt := 24) X dX8_meets_9 (by decide) (fun hc3 => ?_) (fun hc3 => ?_)
  · have hf := ite_yes hc3 hf
    refine r_iconst X dX8_meets_24 ?_
    refine r_goto (tgt := 29) X dX8_meets_25 (by decide) ?_
    exact r_zreturn X hf rfl dX8_meets_29
  · have hf := ite_no hc3 hf
    refine r_aload_n X 0 dX8_meets_12 rfl rfl ?_
    refine r_getR X fl_8_21 (pr_k3 hcp) dX8_meets_13 ?_
    refine r_iload_n X 1 dX8_meets_16 rfl rfl ?_
    obtain ⟨hg4, hf⟩ := gd_some hf
    refine r_aaldI X (pr_a3 hcp) hg4 dX8_meets_17 ?_
    refine r_iload_n X 2 dX8_meets_18 rfl rfl ?_
    obtain ⟨hg5, hf⟩ := gd_some hf
    refine r_iald X (pr_a4 hcp (inb_ix hg4)) hg5 dX8_meets_19 ?_
    refine r_iload_n X 3 dX8_meets_20 rfl rfl ?_
    refine r_icmp_ne (tgt := 28) X dX8_meets_21 (by decide) (fun hc6 => ?_) (fun hc6 => ?_)
    · have hf := ite_yes hc6 hf
      refine r_iconst X dX8_meets_24 ?_
      refine r_goto (tgt := 29) X dX8_meets_25 (by decide) ?_
      exact r_zreturn X hf rfl dX8_meets_29
    · have hf := ite_no hc6 hf
      refine r_iconst X dX8_meets_28 ?_
      exact r_zreturn X hf rfl dX8_meets_29
