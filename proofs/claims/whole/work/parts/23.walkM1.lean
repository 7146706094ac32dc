set_option maxRecDepth 100000 in
set_option maxHeartbeats 4000000 in
theorem c_MJ_floorDiv {l : Launch} {sg : St} {x0 x2 : Int} {q : Int × St} (hf : f_MJ_floorDiv  sg x0 x2 = some q) : ML l shM yJ9_floorDiv_f86c9 cJ9_floorDiv_f86c9 6 (some .long) rm_MJ_floorDiv (fun ad => [mL x0, mL x2]) sg q.2 q.1 := by
  refine mk_l (by decide +kernel) (fun _ => Nat.le_of_ble_eq_true rfl) (fun p e s m args below meth c D cy ad X => ?_)
  have X : CX p s m args meth c cJ9_floorDiv_f86c9 RJ9 6 (some .long) D shM cy ad (aw shM ad) := X
  refine r_perm (lv2 := [(0, mL x0), (2, mL x2)]) [0, 1] rfl ?_
  refine r_lload_n X 0 dJ9_floorDiv_f86c9_0 rfl rfl ?_
  refine r_lload_n X 1 dJ9_floorDiv_f86c9_1 rfl rfl ?_
  obtain ⟨hg1, hf⟩ := gd_some hf
  refine r_ldiv X hg1 dJ9_floorDiv_f86c9_2 ?_
  refine r_lstore (lv2 := [(4, mL (divL x0 x2)), (0, mL x0), (2, mL x2)]) X dJ9_floorDiv_f86c9_3 (by decide) rfl ?_
  refine r_lload_n X 1 dJ9_floorDiv_f86c9_5 rfl rfl ?_
  refine r_lload_n X 2 dJ9_floorDiv_f86c9_6 rfl rfl ?_
  refine r_lxor X dJ9_floorDiv_f86c9_7 ?_
  refine r_lconst (v := 0) X dJ9_floorDiv_f86c9_8 (by decide) ?_
  refine r_lc_ge (tgt := 27) X dJ9_floorDiv_f86c9_9 dJ9_floorDiv_f86c9_10 (by decide) (fun hc2 => ?_) (fun hc2 => ?_)
  · have hf := ite_yes hc2 hf
    refine r_lload X 0 dJ9_floorDiv_f86c9_27 rfl ?_
    exact r_lreturn X hf dJ9_floorDiv_f86c9_29
  · have hf := ite_no hc2 hf
    refine r_lload X 0 dJ9_floorDiv_f86c9_13 rfl ?_
    refine r_lload_n X 2 dJ9_floorDiv_f86c9_15 rfl rfl ?_
    refine r_lmul X dJ9_floorDiv_f86c9_16 ?_
    refine r_lload_n X 1 dJ9_floorDiv_f86c9_17 rfl rfl ?_
    refine r_lc_eq (tgt := 27) X dJ9_floorDiv_f86c9_18 dJ9_floorDiv_f86c9_19 (by decide) (fun hc3 => ?_) (fun hc3 => ?_)
    · have hf := ite_yes hc3 hf
      refine r_lload X 0 dJ9_floorDiv_f86c9_27 rfl ?_
      exact r_lreturn X hf dJ9_floorDiv_f86c9_29
    · have hf := ite_no hc3 hf
      refine r_lload X 0 dJ9_floorDiv_f86c9_22 rfl ?_
      refine r_lconst (v := 1) X dJ9_floorDiv_f86c9_24 (by decide) ?_
      refine r_lsub X dJ9_floorDiv_f86c9_25 ?_
      exact r_lreturn X hf dJ9_floorDiv_f86c9_26
set_option maxRecDepth 100000 in
set_option maxHeartbeats 4000000 in
theorem c_MJ_floorMod {l : Launch} {sg : St} {x0 x2 : Int} {q : Int × St} (hf : f_MJ_floorMod  sg x0 x2 = some q) : ML l shM yJ9_floorMod_f86c9 cJ9_floorMod_f86c9 6 (some .long) rm_MJ_floorMod (fun ad => [mL x0, mL x2]) sg q.2 q.1 := by
  refine mk_l (by decide +kernel) (fun _ => Nat.le_of_ble_eq_true rfl) (fun p e s m args below meth c D cy ad X => ?_)
  have X : CX p s m args meth c cJ9_floorMod_f86c9 RJ9 6 (some .long) D shM cy ad (aw shM ad) := X
  refine r_perm (lv2 := [(0, mL x0), (2, mL x2)]) [0, 1] rfl ?_
  refine r_lload_n X 0 dJ9_floorMod_f86c9_0 rfl rfl ?_
  refine r_lload_n X 1 dJ9_floorMod_f86c9_1 rfl rfl ?_
  obtain ⟨hg1, hf⟩ := gd_some hf
  refine r_lrem X hg1 dJ9_floorMod_f86c9_2 ?_
  refine r_lstore (lv2 := [(4, mL (remL x0 x2)), (0, mL x0), (2, mL x2)]) X dJ9_floorMod_f86c9_3 (by decide) rfl ?_
  refine r_lload_n X 1 dJ9_floorMod_f86c9_5 rfl rfl ?_
  refine r_lload_n X 2 dJ9_floorMod_f86c9_6 rfl rfl ?_
  refine r_lxor X dJ9_floorMod_f86c9_7 ?_
  refine r_lconst (v := 0) X dJ9_floorMod_f86c9_8 (by decide) ?_
  refine r_lc_ge (tgt := 25) X dJ9_floorMod_f86c9_9 dJ9_floorMod_f86c9_10 (by decide) (fun hc2 => ?_) (fun hc2 => ?_)
  · have hf := ite_yes hc2 hf
    refine r_lload X 0 dJ9_floorMod_f86c9_25 rfl ?_
    exact r_lreturn X hf dJ9_floorMod_f86c9_27
  · have hf := ite_no hc2 hf
    refine r_lload X 0 dJ9_floorMod_f86c9_13 rfl ?_
    refine r_lconst (v := 0) X dJ9_floorMod_f86c9_15 (by decide) ?_
    refine r_lc_eq (tgt := 25) X dJ9_floorMod_f86c9_16 dJ9_floorMod_f86c9_17 (by decide) (fun hc3 => ?_) (fun hc3 => ?_)
    · have hf := ite_yes hc3 hf
      refine r_lload X 0 dJ9_floorMod_f86c9_25 rfl ?_
      exact r_lreturn X hf dJ9_floorMod_f86c9_27
    · have hf := ite_no hc3 hf
      refine r_lload X 0 dJ9_floorMod_f86c9_20 rfl ?_
      refine r_lload_n X 2 dJ9_floorMod_f86c9_22 rfl rfl ?_
      refine r_ladd X dJ9_floorMod_f86c9_23 ?_
      exact r_lreturn X hf dJ9_floorMod_f86c9_24
set_option maxRecDepth 100000 in
set_option maxHeartbeats 4000000 in
theorem c_MJ_abs {l : Launch} {sg : St} {x0 : Int} {q : Int × St} (hf : f_MJ_abs  sg x0 = some q) : ML l shM yJ9_abs_067f4 cJ9_abs_067f4 2 (some .long) rm_MJ_abs (fun ad => [mL x0]) sg q.2 q.1 := by
  refine mk_l (by decide +kernel) (fun _ => Nat.le_of_ble_eq_true rfl) (fun p e s m args below meth c D cy ad X => ?_)
  have X : CX p s m args meth c cJ9_abs_067f4 RJ9 2 (some .long) D shM cy ad (aw shM ad) := X
  refine r_perm (lv2 := [(0, mL x0)]) [0] rfl ?_
  refine r_lload_n X 0 dJ9_abs_067f4_0 rfl rfl ?_
  refine r_lconst (v := 0) X dJ9_abs_067f4_1 (by decide) ?_
  refine r_lc_ge (tgt := 11) X dJ9_abs_067f4_2 dJ9_abs_067f4_3 (by decide) (fun hc1 => ?_) (fun hc1 => ?_)
  · have hf := ite_yes hc1 hf
    refine r_lload_n X 0 dJ9_abs_067f4_11 rfl rfl ?_
    exact r_lreturn X hf dJ9_abs_067f4_12
  · have hf := ite_no hc1 hf
    refine r_lload_n X 0 dJ9_abs_067f4_6 rfl rfl ?_
    refine r_lneg X dJ9_abs_067f4_7 ?_
    refine r_goto (tgt := 12) X dJ9_abs_067f4_8 (by decide) ?_
    exact r_lreturn X hf dJ9_abs_067f4_12
set_option maxRecDepth 100000 in
set_option maxHeartbeats 4000000 in
theorem c_MJ_max {l : Launch} {sg : St} {x0 x1 : Int} {q : Int × St} (hf : f_MJ_max  sg x0 x1 = some q) : MI l shM yJ9_max_7cf53 cJ9_max_7cf53 2 (some .int) rm_MJ_max (fun ad => [mI x0, mI x1]) sg q.2 q.1 := by
  refine mk_i (by decide +kernel) (fun _ => Nat.le_of_ble_eq_true rfl) (fun p e s m args below meth c D cy ad X => ?_)
  have X : CX p s m args meth c cJ9_max_7cf53 RJ9 2 (some .int) D shM cy ad (aw shM ad) := X
  refine r_perm (lv2 := [(0, mI x0), (1, mI x1)]) [0, 1] rfl ?_
  refine r_iload_n X 0 dJ9_max_7cf53_0 rfl rfl ?_
  refine r_iload_n X 1 dJ9_max_7cf53_1 rfl rfl ?_
  refine r_icmp_lt (tgt := 9) X dJ9_max_7cf53_2 (by decide) (fun hc1 => ?_) (fun hc1 => ?_)
  · have hf := ite_yes hc1 hf
    refine r_iload_n X 1 dJ9_max_7cf53_9 rfl rfl ?_
    exact r_ireturn X hf dJ9_max_7cf53_10
  · have hf := ite_no hc1 hf
    refine r_iload_n X 0 dJ9_max_7cf53_5 rfl rfl ?_
    refine r_goto (tgt := 10) X dJ9_max_7cf53_6 (by decide) ?_
    exact r_ireturn X hf dJ9_max_7cf53_10
set_option maxRecDepth 100000 in
set_option maxHeartbeats 4000000 in
theorem c_MJ_min {l : Launch} {sg : St} {x0 x1 : Int} {q : Int × St} (hf : f_MJ_min  sg x0 x1 = some q) : MI l shM yJ9_min_7cf53 cJ9_min_7cf53 2 (some .int) rm_MJ_min (fun ad => [mI x0, mI x1]) sg q.2 q.1 := by
  refine mk_i (by decide +kernel) (fun _ => Nat.le_of_ble_eq_true rfl) (fun p e s m args below meth c D cy ad X => ?_)
  have X : CX p s m args meth c cJ9_min_7cf53 RJ9 2 (some .int) D shM cy ad (aw shM ad) := X
  refine r_perm (lv2 := [(0, mI x0), (1, mI x1)]) [0, 1] rfl ?_
  refine r_iload_n X 0 dJ9_min_7cf53_0 rfl rfl ?_
  refine r_iload_n X 1 dJ9_min_7cf53_1 rfl rfl ?_
  refine r_icmp_gt (tgt := 9) X dJ9_min_7cf53_2 (by decide) (fun hc1 => ?_) (fun hc1 => ?_)
  · have hf := ite_yes hc1 hf
    refine r_iload_n X 1 dJ9_min_7cf53_9 rfl rfl ?_
    exact r_ireturn X hf dJ9_min_7cf53_10
  · have hf := ite_no hc1 hf
    refine r_iload_n X 0 dJ9_min_7cf53_5 rfl rfl ?_
    refine r_goto (tgt := 10) X dJ9_min_7cf53_6 (by decide) ?_
    exact r_ireturn X hf dJ9_min_7cf53_10
set_option maxRecDepth 100000 in
set_option maxHeartbeats 4000000 in
theorem c_M_status {l : Launch} {sg : St} {q : Int × St} (hf : f_M_status  sg  = some q) : MI l shM yX12_status cX12_status 1 (some .int) rm_M_status (fun ad => [.ref (ad 0)]) sg q.2 q.1 := by
  refine mk_i (by decide) (fun _ => Nat.le_of_ble_eq_true rfl) (fun p e s m args below meth c D cy ad X => ?_)
  have X : CX p s m args meth c cX12_status RX12 1 (some .int) D shM cy ad (aw shM ad) := X
  refine r_perm (lv2 := [(0, .ref (ad 0))]) [0] rfl ?_
  refine r_aload_n X 0 dX12_status_0 rfl rfl ?_
  refine r_iconst X dX12_status_1 ?_
  refine r_putI X fp_12_195 k_M_0_1 rfl rfl dX12_status_2 ?_
  refine r_aload_n X 0 dX12_status_5 rfl rfl ?_
  refine r_getI X fl_12_198 k_M_0_0 dX12_status_6 ?_
  exact r_ireturn X hf dX12_status_9
set_option maxRecDepth 100000 in
set_option maxHeartbeats 4000000 in
theorem c_M_refuse {l : Launch} {sg : St} {x1 : Int} {q : Int × St} (hf : f_M_refuse  sg x1 = some q) : MI l shM yX12_refuse cX12_refuse 2 (some .int) rm_M_refuse (fun ad => [.ref (ad 0), mI x1]) sg q.2 q.1 := by
  refine mk_i (by decide) (fun _ => Nat.le_of_ble_eq_true rfl) (fun p e s m args below meth c D cy ad X => ?_)
  have X : CX p s m args meth c cX12_refuse RX12 2 (some .int) D shM cy ad (aw shM ad) := X
  refine r_perm (lv2 := [(0, .ref (ad 0)), (1, mI x1)]) [0, 1] rfl ?_
  refine r_aload_n X 0 dX12_refuse_0 rfl rfl ?_
  refine r_iload_n X 1 dX12_refuse_1 rfl rfl ?_
  refine r_putI X fp_12_198 k_M_0_0 rfl rfl dX12_refuse_2 ?_
  refine r_iconst X dX12_refuse_5 ?_
  exact r_ireturn X hf dX12_refuse_6
set_option maxRecDepth 100000 in
set_option maxHeartbeats 4000000 in
theorem c_M_no {l : Launch} {sg : St} {x1 : Int} {q : Int × St} (hf : f_M_no  sg x1 = some q) : MI l shM yX12_no cX12_no 2 (some .boolean) rm_M_no (fun ad => [.ref (ad 0), mI x1]) sg q.2 q.1 := by
  refine mk_i (by decide) (fun _ => Nat.le_of_ble_eq_true rfl) (fun p e s m args below meth c D cy ad X => ?_)
  have X : CX p s m args meth c cX12_no RX12 2 (some .boolean) D shM cy ad (aw shM ad) := X
  refine r_perm (lv2 := [(0, .ref (ad 0)), (1, mI x1)]) [0, 1] rfl ?_
  refine r_aload_n X 0 dX12_no_0 rfl rfl ?_
  refine r_iload_n X 1 dX12_no_1 rfl rfl ?_
  refine r_putI X fp_12_198 k_M_0_0 rfl rfl dX12_no_2 ?_
  refine r_iconst X dX12_no_5 ?_
  exact r_zreturn X hf rfl dX12_no_6
set_option maxRecDepth 100000 in
set_option maxHeartbeats 4000000 in
theorem b_M_board_51_ok {p : Program} {l : Launch} {e : Env} {s : State} {m : MethodId} {args : Array Value} {below : List Frame} {meth : Method} {c : Code} {D : va_G} {cy : Nat → ClassId} {ad : Nat → Nat} (X : CX p s m args meth c cX12_board RX12 6 (some .int) D shM cy ad (aw shM ad)) {F : Nat} {q : Int × St} {sg : St} (hf : b_M_board_51  F  sg  = some q) : GG p l e rm_M_board s m args below meth c (QI D shM cy ad below args s q) D shM cy ad (aw shM ad) 6 51 [(0, .ref (ad 0))] [] sg := by
  refine r_aload_n X 0 dX12_board_51 rfl rfl ?_
  refine r_iconst X dX12_board_52 ?_
  obtain ⟨q1, hq1, hf⟩ := bd_some hf
  refine r_callVI X (As := [mI 2]) (st := []) (as := fun ad => [.ref (ad 0), mI 2]) (c_M_refuse hq1) rfl yw_X12_refuse yv_X12_refuse ml_RX12_201 o_M_0 rfl rfl ⟨rfl, rfl⟩ ⟨Nat.le_of_ble_eq_true rfl, Nat.le_of_ble_eq_true rfl⟩ rfl rfl (Nat.le_of_ble_eq_true rfl) dX12_board_53 ?_
  exact r_ireturn X hf dX12_board_56
set_option maxRecDepth 100000 in
set_option maxHeartbeats 4000000 in
theorem c_M_board {l : Launch} {sg : St} {x1 x2 x3 x4 x5 : Int} {q : Int × St} (hf : f_M_board  sg x1 x2 x3 x4 x5 = some q) : MI l shM yX12_board cX12_board 6 (some .int) rm_M_board (fun ad => [.ref (ad 0), mI x1, mI x2, mI x3, mI x4, mI x5]) sg q.2 q.1 := by
  refine mk_i (by decide) (fun _ => Nat.le_of_ble_eq_true rfl) (fun p e s m args below meth c D cy ad X => ?_)
  have X : CX p s m args meth c cX12_board RX12 6 (some .int) D shM cy ad (aw shM ad) := X
  refine r_perm (lv2 := [(0, .ref (ad 0)), (1, mI x1), (2, mI x2), (3, mI x3), (4, mI x4), (5, mI x5)]) [0, 1, 2, 3, 4, 5] rfl ?_
  refine r_aload_n X 0 dX12_board_0 rfl rfl ?_
  refine r_iconst X dX12_board_1 ?_
  refine r_putI X fp_12_195 k_M_0_1 rfl rfl dX12_board_2 ?_
  refine r_aload_n X 0 dX12_board_5 rfl rfl ?_
  refine r_iconst X dX12_board_6 ?_
  refine r_putI X fp_12_198 k_M_0_0 rfl rfl dX12_board_7 ?_
  refine r_iload_n X 1 dX12_board_10 rfl rfl ?_
  refine r_if_lt (tgt := 51) X dX12_board_11 (by decide) (fun hc3 => ?_) (fun hc3 => ?_)
  · have hf := ite_yes hc3 hf
    refine r_perm (lv2 := [(0, .ref (ad 0))]) [0] rfl ?_
    exact b_M_board_51_ok X  hf
  · have hf := ite_no hc3 hf
    refine r_iload_n X 1 dX12_board_14 rfl rfl ?_
    refine r_bipush X dX12_board_15 (by decide) ?_
    refine r_icmp_gt (tgt := 51) X dX12_board_17 (by decide) (fun hc4 => ?_) (fun hc4 => ?_)
    · have hf := ite_yes hc4 hf
      refine r_perm (lv2 := [(0, .ref (ad 0))]) [0] rfl ?_
      exact b_M_board_51_ok X  hf
    · have hf := ite_no hc4 hf
      refine r_iload_n X 2 dX12_board_20 rfl rfl ?_
      refine r_if_lt (tgt := 51) X dX12_board_21 (by decide) (fun hc5 => ?_) (fun hc5 => ?_)
      · have hf := ite_yes hc5 hf
        refine r_perm (lv2 := [(0, .ref (ad 0))]) [0] rfl ?_
        exact b_M_board_51_ok X  hf
      · have hf := ite_no hc5 hf
        refine r_iload_n X 2 dX12_board_24 rfl rfl ?_
        refine r_iconst X dX12_board_25 ?_
        refine r_icmp_gt (tgt := 51) X dX12_board_26 (by decide) (fun hc6 => ?_) (fun hc6 => ?_)
        · have hf := ite_yes hc6 hf
          refine r_perm (lv2 := [(0, .ref (ad 0))]) [0] rfl ?_
          exact b_M_board_51_ok X  hf
        · have hf := ite_no hc6 hf
          refine r_iload_n X 3 dX12_board_29 rfl rfl ?_
          refine r_if_lt (tgt := 51) X dX12_board_30 (by decide) (fun hc7 => ?_) (fun hc7 => ?_)
          · have hf := ite_yes hc7 hf
            refine r_perm (lv2 := [(0, .ref (ad 0))]) [0] rfl ?_
            exact b_M_board_51_ok X  hf
          · have hf := ite_no hc7 hf
            refine r_iload_n X 3 dX12_board_33 rfl rfl ?_
            refine r_bipush X dX12_board_34 (by decide) ?_
            refine r_icmp_gt (tgt := 51) X dX12_board_36 (by decide) (fun hc8 => ?_) (fun hc8 => ?_)
            · have hf := ite_yes hc8 hf
              refine r_perm (lv2 := [(0, .ref (ad 0))]) [0] rfl ?_
              exact b_M_board_51_ok X  hf
            · have hf := ite_no hc8 hf
              refine r_iload X 4 dX12_board_39 rfl ?_
              refine r_if_lt (tgt := 51) X dX12_board_41 (by decide) (fun hc9 => ?_) (fun hc9 => ?_)
              · have hf := ite_yes hc9 hf
                refine r_perm (lv2 := [(0, .ref (ad 0))]) [0] rfl ?_
                exact b_M_board_51_ok X  hf
              · have hf := ite_no hc9 hf
                refine r_iload X 4 dX12_board_44 rfl ?_
                refine r_bipush X dX12_board_46 (by decide) ?_
                refine r_icmp_le (tgt := 57) X dX12_board_48 (by decide) (fun hc10 => ?_) (fun hc10 => ?_)
                · have hf := ite_yes hc10 hf
                  refine r_aload_n X 0 dX12_board_57 rfl rfl ?_
                  refine r_getI X fl_12_205 k_M_0_4 dX12_board_58 ?_
                  refine r_bipush X dX12_board_61 (by decide) ?_
                  refine r_icmp_ne (tgt := 72) X dX12_board_63 (by decide) (fun hc11 => ?_) (fun hc11 => ?_)
                  · have hf := ite_yes hc11 hf
                    refine r_aload_n X 0 dX12_board_66 rfl rfl ?_
                    refine r_iconst X dX12_board_67 ?_
                    obtain ⟨q12, hq12, hf⟩ := bd_some hf
                    refine r_callVI X (As := [mI 3]) (st := []) (as := fun ad => [.ref (ad 0), mI 3]) (c_M_refuse hq12) rfl yw_X12_refuse yv_X12_refuse ml_RX12_201 o_M_0 rfl rfl ⟨rfl, rfl⟩ ⟨Nat.le_of_ble_eq_true rfl, Nat.le_of_ble_eq_true rfl⟩ rfl rfl (Nat.le_of_ble_eq_true rfl) dX12_board_68 ?_
                    exact r_ireturn X hf dX12_board_71
                  · have hf := ite_no hc11 hf
                    refine r_aload_n X 0 dX12_board_72 rfl rfl ?_
                    refine r_getR X fl_12_17 k_M_0_7 dX12_board_73 ?_
                    refine r_aload_n X 0 dX12_board_76 rfl rfl ?_
                    refine r_getI X fl_12_205 k_M_0_4 dX12_board_77 ?_
                    refine r_iload_n X 1 dX12_board_80 rfl rfl ?_
                    obtain ⟨hg13, hf⟩ := gd_some hf
                    refine r_iast X a_M_1 hg13 dX12_board_81 ?_
                    refine r_aload_n X 0 dX12_board_82 rfl rfl ?_
                    refine r_getR X fl_12_21 k_M_0_8 dX12_board_83 ?_
                    refine r_aload_n X 0 dX12_board_86 rfl rfl ?_
                    refine r_getI X fl_12_205 k_M_0_4 dX12_board_87 ?_
                    refine r_iload_n X 2 dX12_board_90 rfl rfl ?_
                    obtain ⟨hg15, hf⟩ := gd_some hf
                    refine r_iast X a_M_2 hg15 dX12_board_91 ?_
                    refine r_aload_n X 0 dX12_board_92 rfl rfl ?_
                    refine r_getR X fl_12_24 k_M_0_9 dX12_board_93 ?_
                    refine r_aload_n X 0 dX12_board_96 rfl rfl ?_
                    refine r_getI X fl_12_205 k_M_0_4 dX12_board_97 ?_
                    refine r_iload_n X 3 dX12_board_100 rfl rfl ?_
                    obtain ⟨hg17, hf⟩ := gd_some hf
                    refine r_iast X a_M_3 hg17 dX12_board_101 ?_
                    refine r_aload_n X 0 dX12_board_102 rfl rfl ?_
                    refine r_getR X fl_12_27 k_M_0_10 dX12_board_103 ?_
                    refine r_aload_n X 0 dX12_board_106 rfl rfl ?_
                    refine r_getI X fl_12_205 k_M_0_4 dX12_board_107 ?_
                    refine r_iload X 4 dX12_board_110 rfl ?_
                    obtain ⟨hg19, hf⟩ := gd_some hf
                    refine r_iast X a_M_4 hg19 dX12_board_112 ?_
                    refine r_aload_n X 0 dX12_board_113 rfl rfl ?_
                    refine r_getR X fl_12_39 k_M_0_14 dX12_board_114 ?_
                    refine r_aload_n X 0 dX12_board_117 rfl rfl ?_
                    refine r_getI X fl_12_205 k_M_0_4 dX12_board_118 ?_
                    refine r_iload X 5 dX12_board_121 rfl ?_
                    obtain ⟨hg21, hf⟩ := gd_some hf
                    refine r_zast X a_M_8 hg21 dX12_board_123 ?_
                    refine r_aload_n X 0 dX12_board_124 rfl rfl ?_
                    refine r_dup X dX12_board_125 rfl ?_
                    refine r_getI X fl_12_205 k_M_0_4 dX12_board_126 ?_
                    refine r_iconst X dX12_board_129 ?_
                    refine r_iadd X dX12_board_130 ?_
                    refine r_putI X fp_12_205 k_M_0_4 rfl rfl dX12_board_131 ?_
                    refine r_aload_n X 0 dX12_board_134 rfl rfl ?_
                    refine r_getI X fl_12_205 k_M_0_4 dX12_board_135 ?_
                    refine r_iconst X dX12_board_138 ?_
                    refine r_isub X dX12_board_139 ?_
                    exact r_ireturn X hf dX12_board_140
                · have hf := ite_no hc10 hf
                  refine r_perm (lv2 := [(0, .ref (ad 0))]) [0] rfl ?_
                  exact b_M_board_51_ok X  hf
set_option maxRecDepth 100000 in
set_option maxHeartbeats 4000000 in
theorem b_M_judge_42_ok {p : Program} {l : Launch} {e : Env} {s : State} {m : MethodId} {args : Array Value} {below : List Frame} {meth : Method} {c : Code} {D : va_G} {cy : Nat → ClassId} {ad : Nat → Nat} (X : CX p s m args meth c cX12_judge RX12 4 (some .int) D shM cy ad (aw shM ad)) {F : Nat} {q : Int × St} {sg : St} (hf : b_M_judge_42  F  sg  = some q) : GG p l e rm_M_judge s m args below meth c (QI D shM cy ad below args s q) D shM cy ad (aw shM ad) 4 42 [(0, .ref (ad 0))] [] sg := by
  refine r_aload_n X 0 dX12_judge_42 rfl rfl ?_
  refine r_iconst X dX12_judge_43 ?_
  obtain ⟨q1, hq1, hf⟩ := bd_some hf
  refine r_callVI X (As := [mI 2]) (st := []) (as := fun ad => [.ref (ad 0), mI 2]) (c_M_refuse hq1) rfl yw_X12_refuse yv_X12_refuse ml_RX12_201 o_M_0 rfl rfl ⟨rfl, rfl⟩ ⟨Nat.le_of_ble_eq_true rfl, Nat.le_of_ble_eq_true rfl⟩ rfl rfl (Nat.le_of_ble_eq_true rfl) dX12_judge_44 ?_
  exact r_ireturn X hf dX12_judge_47
set_option maxRecDepth 100000 in
set_option maxHeartbeats 4000000 in
theorem c_M_judge {l : Launch} {sg : St} {x1 x2 x3 : Int} {q : Int × St} (hf : f_M_judge  sg x1 x2 x3 = some q) : MI l shM yX12_judge cX12_judge 4 (some .int) rm_M_judge (fun ad => [.ref (ad 0), mI x1, mI x2, mI x3]) sg q.2 q.1 := by
  refine mk_i (by decide) (fun _ => Nat.le_of_ble_eq_true rfl) (fun p e s m args below meth c D cy ad X => ?_)
  have X : CX p s m args meth c cX12_judge RX12 4 (some .int) D shM cy ad (aw shM ad) := X
  refine r_perm (lv2 := [(0, .ref (ad 0)), (1, mI x1), (2, mI x2), (3, mI x3)]) [0, 1, 2, 3] rfl ?_
  refine r_aload_n X 0 dX12_judge_0 rfl rfl ?_
  refine r_iconst X dX12_judge_1 ?_
  refine r_putI X fp_12_195 k_M_0_1 rfl rfl dX12_judge_2 ?_
  refine r_aload_n X 0 dX12_judge_5 rfl rfl ?_
  refine r_iconst X dX12_judge_6 ?_
  refine r_putI X fp_12_198 k_M_0_0 rfl rfl dX12_judge_7 ?_
  refine r_iload_n X 1 dX12_judge_10 rfl rfl ?_
  refine r_if_lt (tgt := 42) X dX12_judge_11 (by decide) (fun hc3 => ?_) (fun hc3 => ?_)
  · have hf := ite_yes hc3 hf
    refine r_perm (lv2 := [(0, .ref (ad 0))]) [0] rfl ?_
    exact b_M_judge_42_ok X  hf
  · have hf := ite_no hc3 hf
    refine r_iload_n X 1 dX12_judge_14 rfl rfl ?_
    refine r_sipush X dX12_judge_15 (by decide) ?_
    refine r_icmp_gt (tgt := 42) X dX12_judge_18 (by decide) (fun hc4 => ?_) (fun hc4 => ?_)
    · have hf := ite_yes hc4 hf
      refine r_perm (lv2 := [(0, .ref (ad 0))]) [0] rfl ?_
      exact b_M_judge_42_ok X  hf
    · have hf := ite_no hc4 hf
      refine r_iload_n X 2 dX12_judge_21 rfl rfl ?_
      refine r_iconst X dX12_judge_22 ?_
      refine r_icmp_lt (tgt := 42) X dX12_judge_23 (by decide) (fun hc5 => ?_) (fun hc5 => ?_)
      · have hf := ite_yes hc5 hf
        refine r_perm (lv2 := [(0, .ref (ad 0))]) [0] rfl ?_
        exact b_M_judge_42_ok X  hf
      · have hf := ite_no hc5 hf
        refine r_iload_n X 2 dX12_judge_26 rfl rfl ?_
        refine r_bipush X dX12_judge_27 (by decide) ?_
        refine r_icmp_gt (tgt := 42) X dX12_judge_29 (by decide) (fun hc6 => ?_) (fun hc6 => ?_)
        · have hf := ite_yes hc6 hf
          refine r_perm (lv2 := [(0, .ref (ad 0))]) [0] rfl ?_
          exact b_M_judge_42_ok X  hf
        · have hf := ite_no hc6 hf
          refine r_iload_n X 3 dX12_judge_32 rfl rfl ?_
          refine r_if_lt (tgt := 42) X dX12_judge_33 (by decide) (fun hc7 => ?_) (fun hc7 => ?_)
          · have hf := ite_yes hc7 hf
            refine r_perm (lv2 := [(0, .ref (ad 0))]) [0] rfl ?_
            exact b_M_judge_42_ok X  hf
          · have hf := ite_no hc7 hf
            refine r_iload_n X 3 dX12_judge_36 rfl rfl ?_
            refine r_bipush X dX12_judge_37 (by decide) ?_
            refine r_icmp_le (tgt := 48) X dX12_judge_39 (by decide) (fun hc8 => ?_) (fun hc8 => ?_)
            · have hf := ite_yes hc8 hf
              refine r_aload_n X 0 dX12_judge_48 rfl rfl ?_
              refine r_getI X fl_12_208 k_M_0_5 dX12_judge_49 ?_
              refine r_bipush X dX12_judge_52 (by decide) ?_
              refine r_icmp_ne (tgt := 63) X dX12_judge_54 (by decide) (fun hc9 => ?_) (fun hc9 => ?_)
              · have hf := ite_yes hc9 hf
                refine r_aload_n X 0 dX12_judge_57 rfl rfl ?_
                refine r_iconst X dX12_judge_58 ?_
                obtain ⟨q10, hq10, hf⟩ := bd_some hf
                refine r_callVI X (As := [mI 3]) (st := []) (as := fun ad => [.ref (ad 0), mI 3]) (c_M_refuse hq10) rfl yw_X12_refuse yv_X12_refuse ml_RX12_201 o_M_0 rfl rfl ⟨rfl, rfl⟩ ⟨Nat.le_of_ble_eq_true rfl, Nat.le_of_ble_eq_true rfl⟩ rfl rfl (Nat.le_of_ble_eq_true rfl) dX12_judge_59 ?_
                exact r_ireturn X hf dX12_judge_62
              · have hf := ite_no hc9 hf
                refine r_aload_n X 0 dX12_judge_63 rfl rfl ?_
                refine r_getR X fl_12_30 k_M_0_11 dX12_judge_64 ?_
                refine r_aload_n X 0 dX12_judge_67 rfl rfl ?_
                refine r_getI X fl_12_208 k_M_0_5 dX12_judge_68 ?_
                refine r_iload_n X 1 dX12_judge_71 rfl rfl ?_
                obtain ⟨hg11, hf⟩ := gd_some hf
                refine r_iast X a_M_5 hg11 dX12_judge_72 ?_
                refine r_aload_n X 0 dX12_judge_73 rfl rfl ?_
                refine r_getR X fl_12_33 k_M_0_12 dX12_judge_74 ?_
                refine r_aload_n X 0 dX12_judge_77 rfl rfl ?_
                refine r_getI X fl_12_208 k_M_0_5 dX12_judge_78 ?_
                refine r_iload_n X 2 dX12_judge_81 rfl rfl ?_
                obtain ⟨hg13, hf⟩ := gd_some hf
                refine r_iast X a_M_6 hg13 dX12_judge_82 ?_
                refine r_aload_n X 0 dX12_judge_83 rfl rfl ?_
                refine r_getR X fl_12_36 k_M_0_13 dX12_judge_84 ?_
                refine r_aload_n X 0 dX12_judge_87 rfl rfl ?_
                refine r_getI X fl_12_208 k_M_0_5 dX12_judge_88 ?_
                refine r_iload_n X 3 dX12_judge_91 rfl rfl ?_
                obtain ⟨hg15, hf⟩ := gd_some hf
                refine r_iast X a_M_7 hg15 dX12_judge_92 ?_
                refine r_aload_n X 0 dX12_judge_93 rfl rfl ?_
                refine r_dup X dX12_judge_94 rfl ?_
                refine r_getI X fl_12_208 k_M_0_5 dX12_judge_95 ?_
                refine r_iconst X dX12_judge_98 ?_
                refine r_iadd X dX12_judge_99 ?_
                refine r_putI X fp_12_208 k_M_0_5 rfl rfl dX12_judge_100 ?_
                refine r_aload_n X 0 dX12_judge_103 rfl rfl ?_
                refine r_getI X fl_12_208 k_M_0_5 dX12_judge_104 ?_
                refine r_iconst X dX12_judge_107 ?_
                refine r_isub X dX12_judge_108 ?_
                exact r_ireturn X hf dX12_judge_109
            · have hf := ite_no hc8 hf
              refine r_perm (lv2 := [(0, .ref (ad 0))]) [0] rfl ?_
              exact b_M_judge_42_ok X  hf
set_option maxRecDepth 100000 in
set_option maxHeartbeats 4000000 in
theorem c_M_isBoard {l : Launch} {sg : St} {x1 : Int} {q : Int × St} (hf : f_M_isBoard  sg x1 = some q) : MI l shM yX12_isBoard cX12_isBoard 2 (some .boolean) rm_M_isBoard (fun ad => [.ref (ad 0), mI x1]) sg q.2 q.1 := by
  refine mk_i (by decide) (fun _ => Nat.le_of_ble_eq_true rfl) (fun p e s m args below meth c D cy ad X => ?_)
  have X : CX p s m args meth c cX12_isBoard RX12 2 (some .boolean) D shM cy ad (aw shM ad) := X
  refine r_perm (lv2 := [(0, .ref (ad 0)), (1, mI x1)]) [0, 1] rfl ?_
  refine r_iload_n X 1 dX12_isBoard_0 rfl rfl ?_
  refine r_if_lt (tgt := 16) X dX12_isBoard_1 (by decide) (fun hc1 => ?_) (fun hc1 => ?_)
  · have hf := ite_yes hc1 hf
    refine r_iconst X dX12_isBoard_16 ?_
    exact r_zreturn X hf rfl dX12_isBoard_17
  · have hf := ite_no hc1 hf
    refine r_iload_n X 1 dX12_isBoard_4 rfl rfl ?_
    refine r_aload_n X 0 dX12_isBoard_5 rfl rfl ?_
    refine r_getI X fl_12_205 k_M_0_4 dX12_isBoard_6 ?_
    refine r_icmp_ge (tgt := 16) X dX12_isBoard_9 (by decide) (fun hc2 => ?_) (fun hc2 => ?_)
    · have hf := ite_yes hc2 hf
      refine r_iconst X dX12_isBoard_16 ?_
      exact r_zreturn X hf rfl dX12_isBoard_17
    · have hf := ite_no hc2 hf
      refine r_iconst X dX12_isBoard_12 ?_
      refine r_goto (tgt := 17) X dX12_isBoard_13 (by decide) ?_
      exact r_zreturn X hf rfl dX12_isBoard_17
set_option maxRecDepth 100000 in
set_option maxHeartbeats 4000000 in
theorem c_M_isJudge {l : Launch} {sg : St} {x1 : Int} {q : Int × St} (hf : f_M_isJudge  sg x1 = some q) : MI l shM yX12_isJudge cX12_isJudge 2 (some .boolean) rm_M_isJudge (fun ad => [.ref (ad 0), mI x1]) sg q.2 q.1 := by
  refine mk_i (by decide) (fun _ => Nat.le_of_ble_eq_true rfl) (fun p e s m args below meth c D cy ad X => ?_)
  have X : CX p s m args meth c cX12_isJudge RX12 2 (some .boolean) D shM cy ad (aw shM ad) := X
  refine r_perm (lv2 := [(0, .ref (ad 0)), (1, mI x1)]) [0, 1] rfl ?_
  refine r_iload_n X 1 dX12_isJudge_0 rfl rfl ?_
  refine r_if_lt (tgt := 16) X dX12_isJudge_1 (by decide) (fun hc1 => ?_) (fun hc1 => ?_)
  · have hf := ite_yes hc1 hf
    refine r_iconst X dX12_isJudge_16 ?_
    exact r_zreturn X hf rfl dX12_isJudge_17
  · have hf := ite_no hc1 hf
    refine r_iload_n X 1 dX12_isJudge_4 rfl rfl ?_
    refine r_aload_n X 0 dX12_isJudge_5 rfl rfl ?_
    refine r_getI X fl_12_208 k_M_0_5 dX12_isJudge_6 ?_
    refine r_icmp_ge (tgt := 16) X dX12_isJudge_9 (by decide) (fun hc2 => ?_) (fun hc2 => ?_)
    · have hf := ite_yes hc2 hf
      refine r_iconst X dX12_isJudge_16 ?_
      exact r_zreturn X hf rfl dX12_isJudge_17
    · have hf := ite_no hc2 hf
      refine r_iconst X dX12_isJudge_12 ?_
      refine r_goto (tgt := 17) X dX12_isJudge_13 (by decide) ?_
      exact r_zreturn X hf rfl dX12_isJudge_17
set_option maxRecDepth 100000 in
set_option maxHeartbeats 4000000 in
theorem c_M_mayOf {l : Launch} {sg : St} {x1 x2 : Int} {q : Int × St} (hf : f_M_mayOf  sg x1 x2 = some q) : MI l shM yX12_mayOf cX12_mayOf 3 (some .boolean) rm_M_mayOf (fun ad => [.ref (ad 0), mI x1, mI x2]) sg q.2 q.1 := by
  refine mk_i (by decide) (fun _ => Nat.le_of_ble_eq_true rfl) (fun p e s m args below meth c D cy ad X => ?_)
  have X : CX p s m args meth c cX12_mayOf RX12 3 (some .boolean) D shM cy ad (aw shM ad) := X
  refine r_perm (lv2 := [(0, .ref (ad 0)), (1, mI x1), (2, mI x2)]) [0, 1, 2] rfl ?_
  refine r_aload_n X 0 dX12_mayOf_0 rfl rfl ?_
  refine r_getR X fl_12_30 k_M_0_11 dX12_mayOf_1 ?_
  refine r_iload_n X 1 dX12_mayOf_4 rfl rfl ?_
  obtain ⟨hg1, hf⟩ := gd_some hf
  refine r_iald X a_M_5 hg1 dX12_mayOf_5 ?_
  refine r_aload_n X 0 dX12_mayOf_6 rfl rfl ?_
  refine r_getR X fl_12_17 k_M_0_7 dX12_mayOf_7 ?_
  refine r_iload_n X 2 dX12_mayOf_10 rfl rfl ?_
  obtain ⟨hg2, hf⟩ := gd_some hf
  refine r_iald X a_M_1 hg2 dX12_mayOf_11 ?_
  refine r_ishr X dX12_mayOf_12 ?_
  refine r_iconst X dX12_mayOf_13 ?_
  refine r_iand X dX12_mayOf_14 ?_
  refine r_iconst X dX12_mayOf_15 ?_
  refine r_icmp_ne (tgt := 38) X dX12_mayOf_16 (by decide) (fun hc3 => ?_) (fun hc3 => ?_)
  · have hf := ite_yes hc3 hf
    refine r_aload_n X 0 dX12_mayOf_19 rfl rfl ?_
    refine r_getR X fl_12_33 k_M_0_12 dX12_mayOf_20 ?_
    refine r_iload_n X 1 dX12_mayOf_23 rfl rfl ?_
    obtain ⟨hg4, hf⟩ := gd_some hf
    refine r_iald X a_M_6 hg4 dX12_mayOf_24 ?_
    refine r_aload_n X 0 dX12_mayOf_25 rfl rfl ?_
    refine r_getR X fl_12_24 k_M_0_9 dX12_mayOf_26 ?_
    refine r_iload_n X 2 dX12_mayOf_29 rfl rfl ?_
    obtain ⟨hg5, hf⟩ := gd_some hf
    refine r_iald X a_M_3 hg5 dX12_mayOf_30 ?_
    refine r_icmp_eq (tgt := 38) X dX12_mayOf_31 (by decide) (fun hc6 => ?_) (fun hc6 => ?_)
    · have hf := ite_yes hc6 hf
      refine r_iconst X dX12_mayOf_38 ?_
      exact r_zreturn X hf rfl dX12_mayOf_39
    · have hf := ite_no hc6 hf
      refine r_iconst X dX12_mayOf_34 ?_
      refine r_goto (tgt := 39) X dX12_mayOf_35 (by decide) ?_
      exact r_zreturn X hf rfl dX12_mayOf_39
  · have hf := ite_no hc3 hf
    refine r_iconst X dX12_mayOf_38 ?_
    exact r_zreturn X hf rfl dX12_mayOf_39
set_option maxRecDepth 100000 in
set_option maxHeartbeats 4000000 in
theorem b_M_told_112_ok {p : Program} {l : Launch} {e : Env} {s : State} {m : MethodId} {args : Array Value} {below : List Frame} {meth : Method} {c : Code} {D : va_G} {cy : Nat → ClassId} {ad : Nat → Nat} (X : CX p s m args meth c cX12_told RX12 5 (some .int) D shM cy ad (aw shM ad)) {F : Nat} {kc : St → Int → Int → Int → Option (Int × St)} {k145 : St → Int → Option (Int × St)} {q : Int × St} (hkc : ∀ sg x1 x3 x4, kc sg x1 x3 x4 = some q → GG p l e rm_M_told s m args below meth c (QI D shM cy ad below args s q) D shM cy ad (aw shM ad) 5 112 [(0, .ref (ad 0)), (1, mI x1), (3, mI x3), (4, mI x4)] [] sg) (hk145 : ∀ sg x3, k145 sg x3 = some q → GG p l e rm_M_told s m args below meth c (QI D shM cy ad below args s q) D shM cy ad (aw shM ad) 5 145 [(3, mI x3)] [] sg) {sg : St} {x1 x3 x4 : Int} (hf : b_M_told_112  F kc k145 sg x1 x3 x4 = some q) : GG p l e rm_M_told s m args below meth c (QI D shM cy ad below args s q) D shM cy ad (aw shM ad) 5 112 [(0, .ref (ad 0)), (1, mI x1), (3, mI x3), (4, mI x4)] [] sg := by
  refine r_iload X 3 dX12_told_112 rfl ?_
  refine r_aload_n X 0 dX12_told_114 rfl rfl ?_
  refine r_getI X fl_12_208 k_M_0_5 dX12_told_115 ?_
  refine r_icmp_ge (tgt := 145) X dX12_told_118 (by decide) (fun hc1 => ?_) (fun hc1 => ?_)
  · have hf := ite_yes hc1 hf
    refine r_perm (lv2 := [(3, mI x3)]) [2] rfl ?_
    exact hk145 _ _ hf
  · have hf := ite_no hc1 hf
    refine r_iload_n X 2 dX12_told_121 rfl rfl ?_
    refine r_aload_n X 0 dX12_told_122 rfl rfl ?_
    refine r_iload X 3 dX12_told_123 rfl ?_
    refine r_iload_n X 1 dX12_told_125 rfl rfl ?_
    obtain ⟨q2, hq2, hf⟩ := bd_some hf
    refine r_callVI X (As := [mI x4, mI x1]) (st := [mI x3]) (as := fun ad => [.ref (ad 0), mI x4, mI x1]) (c_M_mayOf hq2) rfl yw_X12_mayOf yv_X12_mayOf ml_RX12_215 o_M_0 rfl rfl ⟨rfl, rfl⟩ ⟨Nat.le_of_ble_eq_true rfl, Nat.le_of_ble_eq_true rfl⟩ rfl rfl (Nat.le_of_ble_eq_true rfl) dX12_told_126 ?_
    refine r_if_eq (tgt := 136) X dX12_told_129 (by decide) (fun hc3 => ?_) (fun hc3 => ?_)
    · have hf := ite_yes hc3 hf
      refine r_iconst X dX12_told_136 ?_
      refine r_iadd X dX12_told_137 ?_
      refine r_istore_n (lv2 := [(3, mI (x3 + 0)), (0, .ref (ad 0)), (1, mI x1), (4, mI x4)]) X dX12_told_138 rfl (by decide) rfl ?_
      refine r_iinc (lv2 := [(4, mI (x4 + 1)), (3, mI (x3 + 0)), (0, .ref (ad 0)), (1, mI x1)]) X 3 dX12_told_139 rfl (by decide) rfl ?_
      refine r_goto (tgt := 112) X dX12_told_142 (by decide) ?_
      refine r_perm (lv2 := [(0, .ref (ad 0)), (1, mI x1), (3, mI (x3 + 0)), (4, mI (x4 + 1))]) [2, 3, 1, 0] rfl ?_
      exact hkc _ _ _ _ hf
    · have hf := ite_no hc3 hf
      refine r_iconst X dX12_told_132 ?_
      refine r_goto (tgt := 137) X dX12_told_133 (by decide) ?_
      refine r_iadd X dX12_told_137 ?_
      refine r_istore_n (lv2 := [(3, mI (x3 + 1)), (0, .ref (ad 0)), (1, mI x1), (4, mI x4)]) X dX12_told_138 rfl (by decide) rfl ?_
      refine r_iinc (lv2 := [(4, mI (x4 + 1)), (3, mI (x3 + 1)), (0, .ref (ad 0)), (1, mI x1)]) X 3 dX12_told_139 rfl (by decide) rfl ?_
      refine r_goto (tgt := 112) X dX12_told_142 (by decide) ?_
      refine r_perm (lv2 := [(0, .ref (ad 0)), (1, mI x1), (3, mI (x3 + 1)), (4, mI (x4 + 1))]) [2, 3, 1, 0] rfl ?_
      exact hkc _ _ _ _ hf
set_option maxRecDepth 100000 in
set_option maxHeartbeats 4000000 in
theorem l_M_told_112_ok {p : Program} {l : Launch} {e : Env} {s : State} {m : MethodId} {args : Array Value} {below : List Frame} {meth : Method} {c : Code} {D : va_G} {cy : Nat → ClassId} {ad : Nat → Nat} (X : CX p s m args meth c cX12_told RX12 5 (some .int) D shM cy ad (aw shM ad)) {F : Nat} {k145 : St → Int → Option (Int × St)} {q : Int × St} (hk145 : ∀ sg x3, k145 sg x3 = some q → GG p l e rm_M_told s m args below meth c (QI D shM cy ad below args s q) D shM cy ad (aw shM ad) 5 145 [(3, mI x3)] [] sg) : ∀ (n : Nat) (sg : St) (x1 x3 x4 : Int), l_M_told_112  F k145 n sg x1 x3 x4 = some q → GG p l e rm_M_told s m args below meth c (QI D shM cy ad below args s q) D shM cy ad (aw shM ad) 5 112 [(0, .ref (ad 0)), (1, mI x1), (3, mI x3), (4, mI x4)] [] sg := by
  intro n
  induction n with
  | zero => intro sg x1 x3 x4 h; cases h
  | succ n ih => exact fun sg x1 x3 x4 h => b_M_told_112_ok X ih hk145 h
set_option maxRecDepth 100000 in
set_option maxHeartbeats 4000000 in
theorem c_M_told {l : Launch} {F : Nat} {sg : St} {x1 x2 : Int} {q : Int × St} (hf : f_M_told F  sg x1 x2 = some q) : MI l shM yX12_told cX12_told 5 (some .int) rm_M_told (fun ad => [.ref (ad 0), mI x1, mI x2]) sg q.2 q.1 := by
  refine mk_i (by decide) (fun _ => Nat.le_of_ble_eq_true rfl) (fun p e s m args below meth c D cy ad X => ?_)
  have X : CX p s m args meth c cX12_told RX12 5 (some .int) D shM cy ad (aw shM ad) := X
  refine r_perm (lv2 := [(0, .ref (ad 0)), (1, mI x1), (2, mI x2)]) [0, 1, 2] rfl ?_
  refine r_aload_n X 0 dX12_told_0 rfl rfl ?_
  refine r_iconst X dX12_told_1 ?_
  refine r_putI X fp_12_195 k_M_0_1 rfl rfl dX12_told_2 ?_
  refine r_aload_n X 0 dX12_told_5 rfl rfl ?_
  refine r_iconst X dX12_told_6 ?_
  refine r_putI X fp_12_198 k_M_0_0 rfl rfl dX12_told_7 ?_
  refine r_aload_n X 0 dX12_told_10 rfl rfl ?_
  refine r_iload_n X 1 dX12_told_11 rfl rfl ?_
  obtain ⟨q3, hq3, hf⟩ := bd_some hf
  refine r_callVI X (As := [mI x1]) (st := []) (as := fun ad => [.ref (ad 0), mI x1]) (c_M_isBoard hq3) rfl yw_X12_isBoard yv_X12_isBoard ml_RX12_211 o_M_0 rfl rfl ⟨rfl, rfl⟩ ⟨Nat.le_of_ble_eq_true rfl, Nat.le_of_ble_eq_true rfl⟩ rfl rfl (Nat.le_of_ble_eq_true rfl) dX12_told_12 ?_
  refine r_if_ne (tgt := 24) X dX12_told_15 (by decide) (fun hc4 => ?_) (fun hc4 => ?_)
  · have hf := ite_yes hc4 hf
    refine r_aload_n X 0 dX12_told_18 rfl rfl ?_
    refine r_iconst X dX12_told_19 ?_
    obtain ⟨q5, hq5, hf⟩ := bd_some hf
    refine r_callVI X (As := [mI 1]) (st := []) (as := fun ad => [.ref (ad 0), mI 1]) (c_M_refuse hq5) rfl yw_X12_refuse yv_X12_refuse ml_RX12_201 o_M_0 rfl rfl ⟨rfl, rfl⟩ ⟨Nat.le_of_ble_eq_true rfl, Nat.le_of_ble_eq_true rfl⟩ rfl rfl (Nat.le_of_ble_eq_true rfl) dX12_told_20 ?_
    exact r_ireturn X hf dX12_told_23
  · have hf := ite_no hc4 hf
    refine r_iload_n X 2 dX12_told_24 rfl rfl ?_
    by_cases hc20 : w32 x2 = 0
    · have hf := ite_yes hc20 hf
      refine r_tableIn (tgt := 64) X dX12_told_25 hc20 (by decide) (by decide) rfl (by decide) ?_
      refine r_aload_n X 0 dX12_told_64 rfl rfl ?_
      refine r_getR X fl_12_17 k_M_0_7 dX12_told_65 ?_
      refine r_iload_n X 1 dX12_told_68 rfl rfl ?_
      obtain ⟨hg19, hf⟩ := gd_some hf
      refine r_iald X a_M_1 hg19 dX12_told_69 ?_
      exact r_ireturn X hf dX12_told_70
    · have hf := ite_no hc20 hf
      by_cases hc18 : w32 x2 = 1
      · have hf := ite_yes hc18 hf
        refine r_tableIn (tgt := 71) X dX12_told_25 hc18 (by decide) (by decide) rfl (by decide) ?_
        refine r_aload_n X 0 dX12_told_71 rfl rfl ?_
        refine r_getR X fl_12_21 k_M_0_8 dX12_told_72 ?_
        refine r_iload_n X 1 dX12_told_75 rfl rfl ?_
        obtain ⟨hg17, hf⟩ := gd_some hf
        refine r_iald X a_M_2 hg17 dX12_told_76 ?_
        exact r_ireturn X hf dX12_told_77
      · have hf := ite_no hc18 hf
        by_cases hc16 : w32 x2 = 2
        · have hf := ite_yes hc16 hf
          refine r_tableIn (tgt := 78) X dX12_told_25 hc16 (by decide) (by decide) rfl (by decide) ?_
          refine r_aload_n X 0 dX12_told_78 rfl rfl ?_
          refine r_getR X fl_12_24 k_M_0_9 dX12_told_79 ?_
          refine r_iload_n X 1 dX12_told_82 rfl rfl ?_
          obtain ⟨hg15, hf⟩ := gd_some hf
          refine r_iald X a_M_3 hg15 dX12_told_83 ?_
          exact r_ireturn X hf dX12_told_84
        · have hf := ite_no hc16 hf
          by_cases hc14 : w32 x2 = 3
          · have hf := ite_yes hc14 hf
            refine r_tableIn (tgt := 85) X dX12_told_25 hc14 (by decide) (by decide) rfl (by decide) ?_
            refine r_aload_n X 0 dX12_told_85 rfl rfl ?_
            refine r_getR X fl_12_27 k_M_0_10 dX12_told_86 ?_
            refine r_iload_n X 1 dX12_told_89 rfl rfl ?_
            obtain ⟨hg13, hf⟩ := gd_some hf
            refine r_iald X a_M_4 hg13 dX12_told_90 ?_
            exact r_ireturn X hf dX12_told_91
          · have hf := ite_no hc14 hf
            by_cases hc12 : w32 x2 = 4
            · have hf := ite_yes hc12 hf
              refine r_tableIn (tgt := 92) X dX12_told_25 hc12 (by decide) (by decide) rfl (by decide) ?_
              refine r_aload_n X 0 dX12_told_92 rfl rfl ?_
              refine r_getR X fl_12_39 k_M_0_14 dX12_told_93 ?_
              refine r_iload_n X 1 dX12_told_96 rfl rfl ?_
              obtain ⟨hg10, hf⟩ := gd_some hf
              refine r_zald X a_M_8 hg10 dX12_told_97 ?_
              refine r_if_eq (tgt := 105) X dX12_told_98 (by decide) (fun hc11 => ?_) (fun hc11 => ?_)
              · have hf := ite_yes hc11 hf
                refine r_iconst X dX12_told_105 ?_
                exact r_ireturn X hf dX12_told_106
              · have hf := ite_no hc11 hf
                refine r_iconst X dX12_told_101 ?_
                refine r_goto (tgt := 106) X dX12_told_102 (by decide) ?_
                exact r_ireturn X hf dX12_told_106
            · have hf := ite_no hc12 hf
              by_cases hc9 : w32 x2 = 5
              · have hf := ite_yes hc9 hf
                refine r_tableIn (tgt := 107) X dX12_told_25 hc9 (by decide) (by decide) rfl (by decide) ?_
                refine r_iconst X dX12_told_107 ?_
                refine r_istore_n (lv2 := [(3, mI 0), (0, .ref (ad 0)), (1, mI x1), (2, mI x2)]) X dX12_told_108 rfl (by decide) rfl ?_
                refine r_iconst X dX12_told_109 ?_
                refine r_istore (lv2 := [(4, mI 0), (3, mI 0), (0, .ref (ad 0)), (1, mI x1), (2, mI x2)]) X dX12_told_110 (by decide) rfl ?_
                refine r_perm (lv2 := [(0, .ref (ad 0)), (1, mI x1), (3, mI 0), (4, mI 0)]) [2, 3, 1, 0] rfl ?_
                refine l_M_told_112_ok X ?_ F _ _ _ _ hf
                · intro s7 x3_8 hf
                  refine r_iload_n X 0 dX12_told_145 rfl rfl ?_
                  exact r_ireturn X hf dX12_told_146
              · have hf := ite_no hc9 hf
                refine r_tableOut (tgt := 147) X dX12_told_25 (by have h8 := w32_bd x2; omega) (by decide) ?_
                refine r_aload_n X 0 dX12_told_147 rfl rfl ?_
                refine r_iconst X dX12_told_148 ?_
                obtain ⟨q6, hq6, hf⟩ := bd_some hf
                refine r_callVI X (As := [mI 2]) (st := []) (as := fun ad => [.ref (ad 0), mI 2]) (c_M_refuse hq6) rfl yw_X12_refuse yv_X12_refuse ml_RX12_201 o_M_0 rfl rfl ⟨rfl, rfl⟩ ⟨Nat.le_of_ble_eq_true rfl, Nat.le_of_ble_eq_true rfl⟩ rfl rfl (Nat.le_of_ble_eq_true rfl) dX12_told_149 ?_
                exact r_ireturn X hf dX12_told_152
set_option maxRecDepth 100000 in
set_option maxHeartbeats 4000000 in
theorem b_M_may_26_ok {p : Program} {l : Launch} {e : Env} {s : State} {m : MethodId} {args : Array Value} {below : List Frame} {meth : Method} {c : Code} {D : va_G} {cy : Nat → ClassId} {ad : Nat → Nat} (X : CX p s m args meth c cX12_may RX12 3 (some .int) D shM cy ad (aw shM ad)) {F : Nat} {q : Int × St} {sg : St} (hf : b_M_may_26  F  sg  = some q) : GG p l e rm_M_may s m args below meth c (QI D shM cy ad below args s q) D shM cy ad (aw shM ad) 3 26 [(0, .ref (ad 0))] [] sg := by
  refine r_aload_n X 0 dX12_may_26 rfl rfl ?_
  refine r_iconst X dX12_may_27 ?_
  obtain ⟨q1, hq1, hf⟩ := bd_some hf
  refine r_callVI X (As := [mI 1]) (st := []) (as := fun ad => [.ref (ad 0), mI 1]) (c_M_refuse hq1) rfl yw_X12_refuse yv_X12_refuse ml_RX12_201 o_M_0 rfl rfl ⟨rfl, rfl⟩ ⟨Nat.le_of_ble_eq_true rfl, Nat.le_of_ble_eq_true rfl⟩ rfl rfl (Nat.le_of_ble_eq_true rfl) dX12_may_28 ?_
  exact r_ireturn X hf dX12_may_31
set_option maxRecDepth 100000 in
set_option maxHeartbeats 4000000 in
theorem c_M_may {l : Launch} {sg : St} {x1 x2 : Int} {q : Int × St} (hf : f_M_may  sg x1 x2 = some q) : MI l shM yX12_may cX12_may 3 (some .int) rm_M_may (fun ad => [.ref (ad 0), mI x1, mI x2]) sg q.2 q.1 := by
  refine mk_i (by decide) (fun _ => Nat.le_of_ble_eq_true rfl) (fun p e s m args below meth c D cy ad X => ?_)
  have X : CX p s m args meth c cX12_may RX12 3 (some .int) D shM cy ad (aw shM ad) := X
  refine r_perm (lv2 := [(0, .ref (ad 0)), (1, mI x1), (2, mI x2)]) [0, 1, 2] rfl ?_
  refine r_aload_n X 0 dX12_may_0 rfl rfl ?_
  refine r_iconst X dX12_may_1 ?_
  refine r_putI X fp_12_195 k_M_0_1 rfl rfl dX12_may_2 ?_
  refine r_aload_n X 0 dX12_may_5 rfl rfl ?_
  refine r_iconst X dX12_may_6 ?_
  refine r_putI X fp_12_198 k_M_0_0 rfl rfl dX12_may_7 ?_
  refine r_aload_n X 0 dX12_may_10 rfl rfl ?_
  refine r_iload_n X 1 dX12_may_11 rfl rfl ?_
  obtain ⟨q3, hq3, hf⟩ := bd_some hf
  refine r_callVI X (As := [mI x1]) (st := []) (as := fun ad => [.ref (ad 0), mI x1]) (c_M_isJudge hq3) rfl yw_X12_isJudge yv_X12_isJudge ml_RX12_219 o_M_0 rfl rfl ⟨rfl, rfl⟩ ⟨Nat.le_of_ble_eq_true rfl, Nat.le_of_ble_eq_true rfl⟩ rfl rfl (Nat.le_of_ble_eq_true rfl) dX12_may_12 ?_
  refine r_if_eq (tgt := 26) X dX12_may_15 (by decide) (fun hc4 => ?_) (fun hc4 => ?_)
  · have hf := ite_yes hc4 hf
    refine r_perm (lv2 := [(0, .ref (ad 0))]) [0] rfl ?_
    exact b_M_may_26_ok X  hf
  · have hf := ite_no hc4 hf
    refine r_aload_n X 0 dX12_may_18 rfl rfl ?_
    refine r_iload_n X 2 dX12_may_19 rfl rfl ?_
    obtain ⟨q5, hq5, hf⟩ := bd_some hf
    refine r_callVI X (As := [mI x2]) (st := []) (as := fun ad => [.ref (ad 0), mI x2]) (c_M_isBoard hq5) rfl yw_X12_isBoard yv_X12_isBoard ml_RX12_211 o_M_0 rfl rfl ⟨rfl, rfl⟩ ⟨Nat.le_of_ble_eq_true rfl, Nat.le_of_ble_eq_true rfl⟩ rfl rfl (Nat.le_of_ble_eq_true rfl) dX12_may_20 ?_
    refine r_if_ne (tgt := 32) X dX12_may_23 (by decide) (fun hc6 => ?_) (fun hc6 => ?_)
    · have hf := ite_yes hc6 hf
      refine r_perm (lv2 := [(0, .ref (ad 0))]) [0] rfl ?_
      exact b_M_may_26_ok X  hf
    · have hf := ite_no hc6 hf
      refine r_aload_n X 0 dX12_may_32 rfl rfl ?_
      refine r_iload_n X 1 dX12_may_33 rfl rfl ?_
      refine r_iload_n X 2 dX12_may_34 rfl rfl ?_
      obtain ⟨q7, hq7, hf⟩ := bd_some hf
      refine r_callVI X (As := [mI x1, mI x2]) (st := []) (as := fun ad => [.ref (ad 0), mI x1, mI x2]) (c_M_mayOf hq7) rfl yw_X12_mayOf yv_X12_mayOf ml_RX12_215 o_M_0 rfl rfl ⟨rfl, rfl⟩ ⟨Nat.le_of_ble_eq_true rfl, Nat.le_of_ble_eq_true rfl⟩ rfl rfl (Nat.le_of_ble_eq_true rfl) dX12_may_35 ?_
      refine r_if_eq (tgt := 45) X dX12_may_38 (by decide) (fun hc8 => ?_) (fun hc8 => ?_)
      · have hf := ite_yes hc8 hf
        refine r_iconst X dX12_may_45 ?_
        exact r_ireturn X hf dX12_may_46
      · have hf := ite_no hc8 hf
        refine r_iconst X dX12_may_41 ?_
        refine r_goto (tgt := 46) X dX12_may_42 (by decide) ?_
        exact r_ireturn X hf dX12_may_46
set_option maxRecDepth 100000 in
set_option maxHeartbeats 4000000 in
theorem b_M_looks_20_ok {p : Program} {l : Launch} {e : Env} {s : State} {m : MethodId} {args : Array Value} {below : List Frame} {meth : Method} {c : Code} {D : va_G} {cy : Nat → ClassId} {ad : Nat → Nat} (X : CX p s m args meth c cX12_looks RX12 2 (some .boolean) D shM cy ad (aw shM ad)) {F : Nat} {q : Int × St} {sg : St} (hf : b_M_looks_20  F  sg  = some q) : GG p l e rm_M_looks s m args below meth c (QI D shM cy ad below args s q) D shM cy ad (aw shM ad) 2 20 [(0, .ref (ad 0))] [] sg := by
  refine r_aload_n X 0 dX12_looks_20 rfl rfl ?_
  refine r_iconst X dX12_looks_21 ?_
  obtain ⟨q1, hq1, hf⟩ := bd_some hf
  refine r_callVI X (As := [mI 2]) (st := []) (as := fun ad => [.ref (ad 0), mI 2]) (c_M_no hq1) rfl yw_X12_no yv_X12_no ml_RX12_222 o_M_0 rfl rfl ⟨rfl, rfl⟩ ⟨Nat.le_of_ble_eq_true rfl, Nat.le_of_ble_eq_true rfl⟩ rfl rfl (Nat.le_of_ble_eq_true rfl) dX12_looks_22 ?_
  obtain ⟨hz2, hf⟩ := gd_some hf
  exact r_zreturn X hf (zn_of hz2) dX12_looks_25
set_option maxRecDepth 100000 in
set_option maxHeartbeats 4000000 in
theorem c_M_looks {l : Launch} {sg : St} {x1 : Int} {q : Int × St} (hf : f_M_looks  sg x1 = some q) : MI l shM yX12_looks cX12_looks 2 (some .boolean) rm_M_looks (fun ad => [.ref (ad 0), mI x1]) sg q.2 q.1 := by
  refine mk_i (by decide) (fun _ => Nat.le_of_ble_eq_true rfl) (fun p e s m args below meth c D cy ad X => ?_)
  have X : CX p s m args meth c cX12_looks RX12 2 (some .boolean) D shM cy ad (aw shM ad) := X
  refine r_perm (lv2 := [(0, .ref (ad 0)), (1, mI x1)]) [0, 1] rfl ?_
  refine r_aload_n X 0 dX12_looks_0 rfl rfl ?_
  refine r_iconst X dX12_looks_1 ?_
  refine r_putI X fp_12_195 k_M_0_1 rfl rfl dX12_looks_2 ?_
  refine r_aload_n X 0 dX12_looks_5 rfl rfl ?_
  refine r_iconst X dX12_looks_6 ?_
  refine r_putI X fp_12_198 k_M_0_0 rfl rfl dX12_looks_7 ?_
  refine r_iload_n X 1 dX12_looks_10 rfl rfl ?_
  refine r_iconst X dX12_looks_11 ?_
  refine r_icmp_lt (tgt := 20) X dX12_looks_12 (by decide) (fun hc3 => ?_) (fun hc3 => ?_)
  · have hf := ite_yes hc3 hf
    refine r_perm (lv2 := [(0, .ref (ad 0))]) [0] rfl ?_
    exact b_M_looks_20_ok X  hf
  · have hf := ite_no hc3 hf
    refine r_iload_n X 1 dX12_looks_15 rfl rfl ?_
    refine r_iconst X dX12_looks_16 ?_
    refine r_icmp_le (tgt := 26) X dX12_looks_17 (by decide) (fun hc4 => ?_) (fun hc4 => ?_)
    · have hf := ite_yes hc4 hf
      refine r_aload_n X 0 dX12_looks_26 rfl rfl ?_
      refine r_iload_n X 1 dX12_looks_27 rfl rfl ?_
      refine r_putI X fp_12_13 k_M_0_6 rfl rfl dX12_looks_28 ?_
      refine r_iconst X dX12_looks_31 ?_
      exact r_zreturn X hf rfl dX12_looks_32
    · have hf := ite_no hc4 hf
      refine r_perm (lv2 := [(0, .ref (ad 0))]) [0] rfl ?_
      exact b_M_looks_20_ok X  hf
set_option maxRecDepth 100000 in
set_option maxHeartbeats 4000000 in
theorem c_M_at {l : Launch} {sg : St} {x0 x1 : Int} {q : Int × St} (hf : f_M_at  sg x0 x1 = some q) : MI l shM yX12_at cX12_at 2 (some .int) rm_M_at (fun ad => [mI x0, mI x1]) sg q.2 q.1 := by
  refine mk_i (by decide) (fun _ => Nat.le_of_ble_eq_true rfl) (fun p e s m args below meth c D cy ad X => ?_)
  have X : CX p s m args meth c cX12_at RX12 2 (some .int) D shM cy ad (aw shM ad) := X
  refine r_perm (lv2 := [(0, mI x0), (1, mI x1)]) [0, 1] rfl ?_
  refine r_bipush X dX12_at_0 (by decide) ?_
  refine r_iload_n X 0 dX12_at_2 rfl rfl ?_
  refine r_imul X dX12_at_3 ?_
  refine r_iload_n X 1 dX12_at_4 rfl rfl ?_
  refine r_iadd X dX12_at_5 ?_
  exact r_ireturn X hf dX12_at_6
set_option maxRecDepth 100000 in
set_option maxHeartbeats 4000000 in
theorem c_M_isFree {l : Launch} {sg : St} {x1 x2 : Int} {q : Int × St} (hf : f_M_isFree  sg x1 x2 = some q) : MI l shM yX12_isFree cX12_isFree 3 (some .boolean) rm_M_isFree (fun ad => [.ref (ad 0), mI x1, mI x2]) sg q.2 q.1 := by
  refine mk_i (by decide) (fun _ => Nat.le_of_ble_eq_true rfl) (fun p e s m args below meth c D cy ad X => ?_)
  have X : CX p s m args meth c cX12_isFree RX12 3 (some .boolean) D shM cy ad (aw shM ad) := X
  refine r_perm (lv2 := [(0, .ref (ad 0)), (1, mI x1), (2, mI x2)]) [0, 1, 2] rfl ?_
  refine r_aload_n X 0 dX12_isFree_0 rfl rfl ?_
  refine r_iload_n X 2 dX12_isFree_1 rfl rfl ?_
  refine r_iload_n X 1 dX12_isFree_2 rfl rfl ?_
  obtain ⟨q1, hq1, hf⟩ := bd_some hf
  refine r_callVI X (As := [mI x2, mI x1]) (st := []) (as := fun ad => [.ref (ad 0), mI x2, mI x1]) (c_M_mayOf hq1) rfl yw_X12_mayOf yv_X12_mayOf ml_RX12_215 o_M_0 rfl rfl ⟨rfl, rfl⟩ ⟨Nat.le_of_ble_eq_true rfl, Nat.le_of_ble_eq_true rfl⟩ rfl rfl (Nat.le_of_ble_eq_true rfl) dX12_isFree_3 ?_
  refine r_if_eq (tgt := 26) X dX12_isFree_6 (by decide) (fun hc2 => ?_) (fun hc2 => ?_)
  · have hf := ite_yes hc2 hf
    refine r_iconst X dX12_isFree_26 ?_
    exact r_zreturn X hf rfl dX12_isFree_27
  · have hf := ite_no hc2 hf
    refine r_aload_n X 0 dX12_isFree_9 rfl rfl ?_
    refine r_getR X fl_12_58 k_M_0_23 dX12_isFree_10 ?_
    refine r_iload_n X 1 dX12_isFree_13 rfl rfl ?_
    refine r_iload_n X 2 dX12_isFree_14 rfl rfl ?_
    obtain ⟨q3, hq3, hf⟩ := bd_some hf
    refine r_callSI X (As := [mI x1, mI x2]) (st := [.ref (ad 14)]) (as := fun ad => [mI x1, mI x2]) (c_M_at hq3) rfl yw_X12_at ys_X12_at ml_RX12_225 ⟨rfl, rfl⟩ ⟨Nat.le_of_ble_eq_true rfl, Nat.le_of_ble_eq_true rfl⟩ rfl rfl (Nat.le_of_ble_eq_true rfl) dX12_isFree_15 ?_
    obtain ⟨hg4, hf⟩ := gd_some hf
    refine r_iald X a_M_14 hg4 dX12_isFree_18 ?_
    refine r_if_ne (tgt := 26) X dX12_isFree_19 (by decide) (fun hc5 => ?_) (fun hc5 => ?_)
    · have hf := ite_yes hc5 hf
      refine r_iconst X dX12_isFree_22 ?_
      refine r_goto (tgt := 27) X dX12_isFree_23 (by decide) ?_
      exact r_zreturn X hf rfl dX12_isFree_27
    · have hf := ite_no hc5 hf
      refine r_iconst X dX12_isFree_26 ?_
      exact r_zreturn X hf rfl dX12_isFree_27
set_option maxRecDepth 100000 in
set_option maxHeartbeats 4000000 in
theorem b_M_turns_12_ok {p : Program} {l : Launch} {e : Env} {s : State} {m : MethodId} {args : Array Value} {below : List Frame} {meth : Method} {c : Code} {D : va_G} {cy : Nat → ClassId} {ad : Nat → Nat} (X : CX p s m args meth c cX12_turns RX12 5 none D shM cy ad (aw shM ad)) {F : Nat} {kc : St → Int → Option (St)} {k65 : St → Option (St)} {q : St} (hkc : ∀ sg x2, kc sg x2 = some q → GG p l e rm_M_turns s m args below meth c (QV D shM cy ad below args s q) D shM cy ad (aw shM ad) 5 12 [(0, .ref (ad 0)), (2, mI x2)] [] sg) (hk65 : ∀ sg , k65 sg  = some q → GG p l e rm_M_turns s m args below meth c (QV D shM cy ad below args s q) D shM cy ad (aw shM ad) 5 65 [] [] sg) {sg : St} {x2 : Int} (hf : b_M_turns_12  F kc k65 sg x2 = some q) : GG p l e rm_M_turns s m args below meth c (QV D shM cy ad below args s q) D shM cy ad (aw shM ad) 5 12 [(0, .ref (ad 0)), (2, mI x2)] [] sg := by
  refine r_iload_n X 1 dX12_turns_12 rfl rfl ?_
  refine r_if_lt (tgt := 65) X dX12_turns_13 (by decide) (fun hc1 => ?_) (fun hc1 => ?_)
  · have hf := ite_yes hc1 hf
    refine r_perm (lv2 := []) [] rfl ?_
    exact hk65 _ hf
  · have hf := ite_no hc1 hf
    refine r_aload_n X 0 dX12_turns_16 rfl rfl ?_
    refine r_getR X fl_12_67 k_M_0_26 dX12_turns_17 ?_
    refine r_iload_n X 1 dX12_turns_20 rfl rfl ?_
    obtain ⟨hg2, hf⟩ := gd_some hf
    refine r_iald X a_M_17 hg2 dX12_turns_21 ?_
    refine r_istore_n (lv2 := [(3, mI (sg 17 (ix x2))), (0, .ref (ad 0)), (2, mI x2)]) X dX12_turns_22 rfl (by decide) rfl ?_
    refine r_aload_n X 1 dX12_turns_23 rfl rfl ?_
    refine r_getR X fl_12_46 k_M_0_19 dX12_turns_24 ?_
    refine r_iload_n X 0 dX12_turns_27 rfl rfl ?_
    refine r_iload_n X 2 dX12_turns_28 rfl rfl ?_
    obtain ⟨q3, hq3, hf⟩ := bd_some hf
    refine r_callSI X (As := [mI (sg 17 (ix x2)), mI x2]) (st := [.ref (ad 10)]) (as := fun ad => [mI (sg 17 (ix x2)), mI x2]) (c_M_at hq3) rfl yw_X12_at ys_X12_at ml_RX12_225 ⟨rfl, rfl⟩ ⟨Nat.le_of_ble_eq_true rfl, Nat.le_of_ble_eq_true rfl⟩ rfl rfl (Nat.le_of_ble_eq_true rfl) dX12_turns_29 ?_
    refine r_iconst X dX12_turns_32 ?_
    obtain ⟨hg4, hf⟩ := gd_some hf
    refine r_zast X a_M_10 hg4 dX12_turns_33 ?_
    refine r_aload_n X 1 dX12_turns_34 rfl rfl ?_
    refine r_getR X fl_12_73 k_M_0_28 dX12_turns_35 ?_
    refine r_iload_n X 0 dX12_turns_38 rfl rfl ?_
    obtain ⟨hg6, hf⟩ := gd_some hf
    refine r_iald X a_M_19 hg6 dX12_turns_39 ?_
    refine r_istore (lv2 := [(4, mI ((put q3.2 10 (ix q3.1) (nz 1)) 19 (ix (sg 17 (ix x2))))), (3, mI (sg 17 (ix x2))), (0, .ref (ad 0)), (2, mI x2)]) X dX12_turns_40 (by decide) rfl ?_
    refine r_iload X 0 dX12_turns_42 rfl ?_
    refine r_if_lt (tgt := 59) X dX12_turns_44 (by decide) (fun hc7 => ?_) (fun hc7 => ?_)
    · have hf := ite_yes hc7 hf
      refine r_iload X 0 dX12_turns_59 rfl ?_
      refine r_istore_n (lv2 := [(2, mI ((put q3.2 10 (ix q3.1) (nz 1)) 19 (ix (sg 17 (ix x2))))), (4, mI ((put q3.2 10 (ix q3.1) (nz 1)) 19 (ix (sg 17 (ix x2))))), (3, mI (sg 17 (ix x2))), (0, .ref (ad 0))]) X dX12_turns_61 rfl (by decide) rfl ?_
      refine r_goto (tgt := 12) X dX12_turns_62 (by decide) ?_
      refine r_perm (lv2 := [(0, .ref (ad 0)), (2, mI ((put q3.2 10 (ix q3.1) (nz 1)) 19 (ix (sg 17 (ix x2)))))]) [3, 0] rfl ?_
      exact hkc _ _ hf
    · have hf := ite_no hc7 hf
      refine r_aload_n X 2 dX12_turns_47 rfl rfl ?_
      refine r_getR X fl_12_46 k_M_0_19 dX12_turns_48 ?_
      refine r_iload_n X 1 dX12_turns_51 rfl rfl ?_
      refine r_iload X 0 dX12_turns_52 rfl ?_
      obtain ⟨q8, hq8, hf⟩ := bd_some hf
      refine r_callSI X (As := [mI (sg 17 (ix x2)), mI ((put q3.2 10 (ix q3.1) (nz 1)) 19 (ix (sg 17 (ix x2))))]) (st := [.ref (ad 10)]) (as := fun ad => [mI (sg 17 (ix x2)), mI ((put q3.2 10 (ix q3.1) (nz 1)) 19 (ix (sg 17 (ix x2))))]) (c_M_at hq8) rfl yw_X12_at ys_X12_at ml_RX12_225 ⟨rfl, rfl⟩ ⟨Nat.le_of_ble_eq_true rfl, Nat.le_of_ble_eq_true rfl⟩ rfl rfl (Nat.le_of_ble_eq_true rfl) dX12_turns_54 ?_
      refine r_iconst X dX12_turns_57 ?_
      obtain ⟨hg9, hf⟩ := gd_some hf
      refine r_zast X a_M_10 hg9 dX12_turns_58 ?_
      refine r_iload X 0 dX12_turns_59 rfl ?_
      refine r_istore_n (lv2 := [(2, mI ((put q3.2 10 (ix q3.1) (nz 1)) 19 (ix (sg 17 (ix x2))))), (4, mI ((put q3.2 10 (ix q3.1) (nz 1)) 19 (ix (sg 17 (ix x2))))), (3, mI (sg 17 (ix x2))), (0, .ref (ad 0))]) X dX12_turns_61 rfl (by decide) rfl ?_
      refine r_goto (tgt := 12) X dX12_turns_62 (by decide) ?_
      refine r_perm (lv2 := [(0, .ref (ad 0)), (2, mI ((put q3.2 10 (ix q3.1) (nz 1)) 19 (ix (sg 17 (ix x2)))))]) [3, 0] rfl ?_
      exact hkc _ _ hf
set_option maxRecDepth 100000 in
set_option maxHeartbeats 4000000 in
theorem l_M_turns_12_ok {p : Program} {l : Launch} {e : Env} {s : State} {m : MethodId} {args : Array Value} {below : List Frame} {meth : Method} {c : Code} {D : va_G} {cy : Nat → ClassId} {ad : Nat → Nat} (X : CX p s m args meth c cX12_turns RX12 5 none D shM cy ad (aw shM ad)) {F : Nat} {k65 : St → Option (St)} {q : St} (hk65 : ∀ sg , k65 sg  = some q → GG p l e rm_M_turns s m args below meth c (QV D shM cy ad below args s q) D shM cy ad (aw shM ad) 5 65 [] [] sg) : ∀ (n : Nat) (sg : St) (x2 : Int), l_M_turns_12  F k65 n sg x2 = some q → GG p l e rm_M_turns s m args below meth c (QV D shM cy ad below args s q) D shM cy ad (aw shM ad) 5 12 [(0, .ref (ad 0)), (2, mI x2)] [] sg := by
  intro n
  induction n with
  | zero => intro sg x2 h; cases h
  | succ n ih => exact fun sg x2 h => b_M_turns_12_ok X ih hk65 h
set_option maxRecDepth 100000 in
set_option maxHeartbeats 4000000 in
theorem c_M_turns {l : Launch} {F : Nat} {sg : St} {x1 : Int} {q : St} (hf : f_M_turns F  sg x1 = some q) : MV l shM yX12_turns cX12_turns 5 none rm_M_turns (fun ad => [.ref (ad 0), mI x1]) sg q := by
  refine mk_v (by decide) (fun _ => Nat.le_of_ble_eq_true rfl) (fun p e s m args below meth c D cy ad X => ?_)
  have X : CX p s m args meth c cX12_turns RX12 5 none D shM cy ad (aw shM ad) := X
  refine r_perm (lv2 := [(0, .ref (ad 0)), (1, mI x1)]) [0, 1] rfl ?_
  refine r_aload_n X 0 dX12_turns_0 rfl rfl ?_
  refine r_getR X fl_12_64 k_M_0_25 dX12_turns_1 ?_
  refine r_iload_n X 1 dX12_turns_4 rfl rfl ?_
  refine r_dup2 X dX12_turns_5 rfl rfl ?_
  obtain ⟨hg1, hf⟩ := gd_some hf
  refine r_iald X a_M_16 hg1 dX12_turns_6 ?_
  refine r_iconst X dX12_turns_7 ?_
  refine r_iadd X dX12_turns_8 ?_
  obtain ⟨hg2, hf⟩ := gd_some hf
  refine r_iast X a_M_16 hg2 dX12_turns_9 ?_
  refine r_iload_n X 1 dX12_turns_10 rfl rfl ?_
  refine r_istore_n (lv2 := [(2, mI x1), (0, .ref (ad 0)), (1, mI x1)]) X dX12_turns_11 rfl (by decide) rfl ?_
  refine r_perm (lv2 := [(0, .ref (ad 0)), (2, mI x1)]) [1, 0] rfl ?_
  refine l_M_turns_12_ok X ?_ F _ _ hf
  · intro s4  hf
    exact r_vreturn X hf dX12_turns_65
set_option maxRecDepth 100000 in
set_option maxHeartbeats 4000000 in
theorem b_M_sees_47_ok {p : Program} {l : Launch} {e : Env} {s : State} {m : MethodId} {args : Array Value} {below : List Frame} {meth : Method} {c : Code} {D : va_G} {cy : Nat → ClassId} {ad : Nat → Nat} (X : CX p s m args meth c cX12_sees RX12 3 (some .int) D shM cy ad (aw shM ad)) {F : Nat} {q : Int × St} {sg : St} (hf : b_M_sees_47  F  sg  = some q) : GG p l e rm_M_sees s m args below meth c (QI D shM cy ad below args s q) D shM cy ad (aw shM ad) 3 47 [(0, .ref (ad 0))] [] sg := by
  refine r_aload_n X 0 dX12_sees_47 rfl rfl ?_
  refine r_iconst X dX12_sees_48 ?_
  obtain ⟨q1, hq1, hf⟩ := bd_some hf
  refine r_callVI X (As := [mI 1]) (st := []) (as := fun ad => [.ref (ad 0), mI 1]) (c_M_refuse hq1) rfl yw_X12_refuse yv_X12_refuse ml_RX12_201 o_M_0 rfl rfl ⟨rfl, rfl⟩ ⟨Nat.le_of_ble_eq_true rfl, Nat.le_of_ble_eq_true rfl⟩ rfl rfl (Nat.le_of_ble_eq_true rfl) dX12_sees_49 ?_
  exact r_ireturn X hf dX12_sees_52
set_option maxRecDepth 100000 in
set_option maxHeartbeats 4000000 in
theorem c_M_sees {l : Launch} {sg : St} {x1 x2 : Int} {q : Int × St} (hf : f_M_sees  sg x1 x2 = some q) : MI l shM yX12_sees cX12_sees 3 (some .int) rm_M_sees (fun ad => [.ref (ad 0), mI x1, mI x2]) sg q.2 q.1 := by
  refine mk_i (by decide) (fun _ => Nat.le_of_ble_eq_true rfl) (fun p e s m args below meth c D cy ad X => ?_)
  have X : CX p s m args meth c cX12_sees RX12 3 (some .int) D shM cy ad (aw shM ad) := X
  refine r_perm (lv2 := [(0, .ref (ad 0)), (1, mI x1), (2, mI x2)]) [0, 1, 2] rfl ?_
  refine r_aload_n X 0 dX12_sees_0 rfl rfl ?_
  refine r_iconst X dX12_sees_1 ?_
  refine r_putI X fp_12_195 k_M_0_1 rfl rfl dX12_sees_2 ?_
  refine r_aload_n X 0 dX12_sees_5 rfl rfl ?_
  refine r_iconst X dX12_sees_6 ?_
  refine r_putI X fp_12_198 k_M_0_0 rfl rfl dX12_sees_7 ?_
  refine r_aload_n X 0 dX12_sees_10 rfl rfl ?_
  refine r_getI X fl_12_243 k_M_0_15 dX12_sees_11 ?_
  refine r_if_ne (tgt := 23) X dX12_sees_14 (by decide) (fun hc3 => ?_) (fun hc3 => ?_)
  · have hf := ite_yes hc3 hf
    refine r_aload_n X 0 dX12_sees_17 rfl rfl ?_
    refine r_iconst X dX12_sees_18 ?_
    obtain ⟨q4, hq4, hf⟩ := bd_some hf
    refine r_callVI X (As := [mI 4]) (st := []) (as := fun ad => [.ref (ad 0), mI 4]) (c_M_refuse hq4) rfl yw_X12_refuse yv_X12_refuse ml_RX12_201 o_M_0 rfl rfl ⟨rfl, rfl⟩ ⟨Nat.le_of_ble_eq_true rfl, Nat.le_of_ble_eq_true rfl⟩ rfl rfl (Nat.le_of_ble_eq_true rfl) dX12_sees_19 ?_
    exact r_ireturn X hf dX12_sees_22
  · have hf := ite_no hc3 hf
    refine r_iload_n X 1 dX12_sees_23 rfl rfl ?_
    refine r_if_lt (tgt := 47) X dX12_sees_24 (by decide) (fun hc5 => ?_) (fun hc5 => ?_)
    · have hf := ite_yes hc5 hf
      refine r_perm (lv2 := [(0, .ref (ad 0))]) [0] rfl ?_
      exact b_M_sees_47_ok X  hf
    · have hf := ite_no hc5 hf
      refine r_iload_n X 1 dX12_sees_27 rfl rfl ?_
      refine r_aload_n X 0 dX12_sees_28 rfl rfl ?_
      refine r_getI X fl_12_250 k_M_0_17 dX12_sees_29 ?_
      refine r_icmp_ge (tgt := 47) X dX12_sees_32 (by decide) (fun hc6 => ?_) (fun hc6 => ?_)
      · have hf := ite_yes hc6 hf
        refine r_perm (lv2 := [(0, .ref (ad 0))]) [0] rfl ?_
        exact b_M_sees_47_ok X  hf
      · have hf := ite_no hc6 hf
        refine r_iload_n X 2 dX12_sees_35 rfl rfl ?_
        refine r_if_lt (tgt := 47) X dX12_sees_36 (by decide) (fun hc7 => ?_) (fun hc7 => ?_)
        · have hf := ite_yes hc7 hf
          refine r_perm (lv2 := [(0, .ref (ad 0))]) [0] rfl ?_
          exact b_M_sees_47_ok X  hf
        · have hf := ite_no hc7 hf
          refine r_iload_n X 2 dX12_sees_39 rfl rfl ?_
          refine r_aload_n X 0 dX12_sees_40 rfl rfl ?_
          refine r_getI X fl_12_247 k_M_0_16 dX12_sees_41 ?_
          refine r_icmp_lt (tgt := 53) X dX12_sees_44 (by decide) (fun hc8 => ?_) (fun hc8 => ?_)
          · have hf := ite_yes hc8 hf
            refine r_aload_n X 0 dX12_sees_53 rfl rfl ?_
            refine r_getR X fl_12_43 k_M_0_18 dX12_sees_54 ?_
            refine r_iload_n X 2 dX12_sees_57 rfl rfl ?_
            refine r_iload_n X 1 dX12_sees_58 rfl rfl ?_
            obtain ⟨q9, hq9, hf⟩ := bd_some hf
            refine r_callSI X (As := [mI x2, mI x1]) (st := [.ref (ad 9)]) (as := fun ad => [mI x2, mI x1]) (c_M_at hq9) rfl yw_X12_at ys_X12_at ml_RX12_225 ⟨rfl, rfl⟩ ⟨Nat.le_of_ble_eq_true rfl, Nat.le_of_ble_eq_true rfl⟩ rfl rfl (Nat.le_of_ble_eq_true rfl) dX12_sees_59 ?_
            obtain ⟨hg10, hf⟩ := gd_some hf
            refine r_zald X a_M_9 hg10 dX12_sees_62 ?_
            refine r_if_eq (tgt := 70) X dX12_sees_63 (by decide) (fun hc11 => ?_) (fun hc11 => ?_)
            · have hf := ite_yes hc11 hf
              refine r_iconst X dX12_sees_70 ?_
              exact r_ireturn X hf dX12_sees_71
            · have hf := ite_no hc11 hf
              refine r_iconst X dX12_sees_66 ?_
              refine r_goto (tgt := 71) X dX12_sees_67 (by decide) ?_
              exact r_ireturn X hf dX12_sees_71
          · have hf := ite_no hc8 hf
            refine r_perm (lv2 := [(0, .ref (ad 0))]) [0] rfl ?_
            exact b_M_sees_47_ok X  hf
set_option maxRecDepth 100000 in
set_option maxHeartbeats 4000000 in
theorem b_M_holds_35_ok {p : Program} {l : Launch} {e : Env} {s : State} {m : MethodId} {args : Array Value} {below : List Frame} {meth : Method} {c : Code} {D : va_G} {cy : Nat → ClassId} {ad : Nat → Nat} (X : CX p s m args meth c cX12_holds RX12 2 (some .int) D shM cy ad (aw shM ad)) {F : Nat} {q : Int × St} {sg : St} (hf : b_M_holds_35  F  sg  = some q) : GG p l e rm_M_holds s m args below meth c (QI D shM cy ad below args s q) D shM cy ad (aw shM ad) 2 35 [(0, .ref (ad 0))] [] sg := by
  refine r_aload_n X 0 dX12_holds_35 rfl rfl ?_
  refine r_iconst X dX12_holds_36 ?_
  obtain ⟨q1, hq1, hf⟩ := bd_some hf
  refine r_callVI X (As := [mI 1]) (st := []) (as := fun ad => [.ref (ad 0), mI 1]) (c_M_refuse hq1) rfl yw_X12_refuse yv_X12_refuse ml_RX12_201 o_M_0 rfl rfl ⟨rfl, rfl⟩ ⟨Nat.le_of_ble_eq_true rfl, Nat.le_of_ble_eq_true rfl⟩ rfl rfl (Nat.le_of_ble_eq_true rfl) dX12_holds_37 ?_
  exact r_ireturn X hf dX12_holds_40
set_option maxRecDepth 100000 in
set_option maxHeartbeats 4000000 in
theorem c_M_holds {l : Launch} {sg : St} {x1 : Int} {q : Int × St} (hf : f_M_holds  sg x1 = some q) : MI l shM yX12_holds cX12_holds 2 (some .int) rm_M_holds (fun ad => [.ref (ad 0), mI x1]) sg q.2 q.1 := by
  refine mk_i (by decide) (fun _ => Nat.le_of_ble_eq_true rfl) (fun p e s m args below meth c D cy ad X => ?_)
  have X : CX p s m args meth c cX12_holds RX12 2 (some .int) D shM cy ad (aw shM ad) := X
  refine r_perm (lv2 := [(0, .ref (ad 0)), (1, mI x1)]) [0, 1] rfl ?_
  refine r_aload_n X 0 dX12_holds_0 rfl rfl ?_
  refine r_iconst X dX12_holds_1 ?_
  refine r_putI X fp_12_195 k_M_0_1 rfl rfl dX12_holds_2 ?_
  refine r_aload_n X 0 dX12_holds_5 rfl rfl ?_
  refine r_iconst X dX12_holds_6 ?_
  refine r_putI X fp_12_198 k_M_0_0 rfl rfl dX12_holds_7 ?_
  refine r_aload_n X 0 dX12_holds_10 rfl rfl ?_
  refine r_getI X fl_12_243 k_M_0_15 dX12_holds_11 ?_
  refine r_if_ne (tgt := 23) X dX12_holds_14 (by decide) (fun hc3 => ?_) (fun hc3 => ?_)
  · have hf := ite_yes hc3 hf
    refine r_aload_n X 0 dX12_holds_17 rfl rfl ?_
    refine r_iconst X dX12_holds_18 ?_
    obtain ⟨q4, hq4, hf⟩ := bd_some hf
    refine r_callVI X (As := [mI 4]) (st := []) (as := fun ad => [.ref (ad 0), mI 4]) (c_M_refuse hq4) rfl yw_X12_refuse yv_X12_refuse ml_RX12_201 o_M_0 rfl rfl ⟨rfl, rfl⟩ ⟨Nat.le_of_ble_eq_true rfl, Nat.le_of_ble_eq_true rfl⟩ rfl rfl (Nat.le_of_ble_eq_true rfl) dX12_holds_19 ?_
    exact r_ireturn X hf dX12_holds_22
  · have hf := ite_no hc3 hf
    refine r_iload_n X 1 dX12_holds_23 rfl rfl ?_
    refine r_if_lt (tgt := 35) X dX12_holds_24 (by decide) (fun hc5 => ?_) (fun hc5 => ?_)
    · have hf := ite_yes hc5 hf
      refine r_perm (lv2 := [(0, .ref (ad 0))]) [0] rfl ?_
      exact b_M_holds_35_ok X  hf
    · have hf := ite_no hc5 hf
      refine r_iload_n X 1 dX12_holds_27 rfl rfl ?_
      refine r_aload_n X 0 dX12_holds_28 rfl rfl ?_
      refine r_getI X fl_12_247 k_M_0_16 dX12_holds_29 ?_
      refine r_icmp_lt (tgt := 41) X dX12_holds_32 (by decide) (fun hc6 => ?_) (fun hc6 => ?_)
      · have hf := ite_yes hc6 hf
        refine r_aload_n X 0 dX12_holds_41 rfl rfl ?_
        refine r_getR X fl_12_49 k_M_0_20 dX12_holds_42 ?_
        refine r_iload_n X 1 dX12_holds_45 rfl rfl ?_
        obtain ⟨hg7, hf⟩ := gd_some hf
        refine r_zald X a_M_11 hg7 dX12_holds_46 ?_
        refine r_if_eq (tgt := 54) X dX12_holds_47 (by decide) (fun hc8 => ?_) (fun hc8 => ?_)
        · have hf := ite_yes hc8 hf
          refine r_iconst X dX12_holds_54 ?_
          exact r_ireturn X hf dX12_holds_55
        · have hf := ite_no hc8 hf
          refine r_iconst X dX12_holds_50 ?_
          refine r_goto (tgt := 55) X dX12_holds_51 (by decide) ?_
          exact r_ireturn X hf dX12_holds_55
      · have hf := ite_no hc6 hf
        refine r_perm (lv2 := [(0, .ref (ad 0))]) [0] rfl ?_
        exact b_M_holds_35_ok X  hf
set_option maxRecDepth 100000 in
set_option maxHeartbeats 4000000 in
theorem c_M_isDay {l : Launch} {sg : St} {x0 : Int} {q : Int × St} (hf : f_M_isDay  sg x0 = some q) : MI l shM yX12_isDay cX12_isDay 1 (some .boolean) rm_M_isDay (fun ad => [mI x0]) sg q.2 q.1 := by
  refine mk_i (by decide) (fun _ => Nat.le_of_ble_eq_true rfl) (fun p e s m args below meth c D cy ad X => ?_)
  have X : CX p s m args meth c cX12_isDay RX12 1 (some .boolean) D shM cy ad (aw shM ad) := X
  refine r_perm (lv2 := [(0, mI x0)]) [0] rfl ?_
  refine r_iload_n X 0 dX12_isDay_0 rfl rfl ?_
  refine r_if_lt (tgt := 15) X dX12_isDay_1 (by decide) (fun hc1 => ?_) (fun hc1 => ?_)
  · have hf := ite_yes hc1 hf
    refine r_iconst X dX12_isDay_15 ?_
    exact r_zreturn X hf rfl dX12_isDay_16
  · have hf := ite_no hc1 hf
    refine r_iload_n X 0 dX12_isDay_4 rfl rfl ?_
    refine r_sipush X dX12_isDay_5 (by decide) ?_
    refine r_icmp_gt (tgt := 15) X dX12_isDay_8 (by decide) (fun hc2 => ?_) (fun hc2 => ?_)
    · have hf := ite_yes hc2 hf
      refine r_iconst X dX12_isDay_15 ?_
      exact r_zreturn X hf rfl dX12_isDay_16
    · have hf := ite_no hc2 hf
      refine r_iconst X dX12_isDay_11 ?_
      refine r_goto (tgt := 16) X dX12_isDay_12 (by decide) ?_
      exact r_zreturn X hf rfl dX12_isDay_16
set_option maxRecDepth 100000 in
set_option maxHeartbeats 4000000 in
theorem b_M_mark_50_ok {p : Program} {l : Launch} {e : Env} {s : State} {m : MethodId} {args : Array Value} {below : List Frame} {meth : Method} {c : Code} {D : va_G} {cy : Nat → ClassId} {ad : Nat → Nat} (X : CX p s m args meth c cX12_mark RX12 5 (some .int) D shM cy ad (aw shM ad)) {F : Nat} {q : Int × St} {sg : St} (hf : b_M_mark_50  F  sg  = some q) : GG p l e rm_M_mark s m args below meth c (QI D shM cy ad below args s q) D shM cy ad (aw shM ad) 5 50 [(0, .ref (ad 0))] [] sg := by
  refine r_aload_n X 0 dX12_mark_50 rfl rfl ?_
  refine r_iconst X dX12_mark_51 ?_
  obtain ⟨q1, hq1, hf⟩ := bd_some hf
  refine r_callVI X (As := [mI 2]) (st := []) (as := fun ad => [.ref (ad 0), mI 2]) (c_M_refuse hq1) rfl yw_X12_refuse yv_X12_refuse ml_RX12_201 o_M_0 rfl rfl ⟨rfl, rfl⟩ ⟨Nat.le_of_ble_eq_true rfl, Nat.le_of_ble_eq_true rfl⟩ rfl rfl (Nat.le_of_ble_eq_true rfl) dX12_mark_52 ?_
  exact r_ireturn X hf dX12_mark_55
set_option maxRecDepth 100000 in
set_option maxHeartbeats 4000000 in
theorem b_M_mark_26_ok {p : Program} {l : Launch} {e : Env} {s : State} {m : MethodId} {args : Array Value} {below : List Frame} {meth : Method} {c : Code} {D : va_G} {cy : Nat → ClassId} {ad : Nat → Nat} (X : CX p s m args meth c cX12_mark RX12 5 (some .int) D shM cy ad (aw shM ad)) {F : Nat} {q : Int × St} {sg : St} (hf : b_M_mark_26  F  sg  = some q) : GG p l e rm_M_mark s m args below meth c (QI D shM cy ad below args s q) D shM cy ad (aw shM ad) 5 26 [(0, .ref (ad 0))] [] sg := by
  refine r_aload_n X 0 dX12_mark_26 rfl rfl ?_
  refine r_iconst X dX12_mark_27 ?_
  obtain ⟨q1, hq1, hf⟩ := bd_some hf
  refine r_callVI X (As := [mI 1]) (st := []) (as := fun ad => [.ref (ad 0), mI 1]) (c_M_refuse hq1) rfl yw_X12_refuse yv_X12_refuse ml_RX12_201 o_M_0 rfl rfl ⟨rfl, rfl⟩ ⟨Nat.le_of_ble_eq_true rfl, Nat.le_of_ble_eq_true rfl⟩ rfl rfl (Nat.le_of_ble_eq_true rfl) dX12_mark_28 ?_
  exact r_ireturn X hf dX12_mark_31
set_option maxRecDepth 100000 in
set_option maxHeartbeats 4000000 in
theorem c_M_mark {l : Launch} {sg : St} {x1 x2 x3 x4 : Int} {q : Int × St} (hf : f_M_mark  sg x1 x2 x3 x4 = some q) : MI l shM yX12_mark cX12_mark 5 (some .int) rm_M_mark (fun ad => [.ref (ad 0), mI x1, mI x2, mI x3, mI x4]) sg q.2 q.1 := by
  refine mk_i (by decide) (fun _ => Nat.le_of_ble_eq_true rfl) (fun p e s m args below meth c D cy ad X => ?_)
  have X : CX p s m args meth c cX12_mark RX12 5 (some .int) D shM cy ad (aw shM ad) := X
  refine r_perm (lv2 := [(0, .ref (ad 0)), (1, mI x1), (2, mI x2), (3, mI x3), (4, mI x4)]) [0, 1, 2, 3, 4] rfl ?_
  refine r_aload_n X 0 dX12_mark_0 rfl rfl ?_
  refine r_iconst X dX12_mark_1 ?_
  refine r_putI X fp_12_195 k_M_0_1 rfl rfl dX12_mark_2 ?_
  refine r_aload_n X 0 dX12_mark_5 rfl rfl ?_
  refine r_iconst X dX12_mark_6 ?_
  refine r_putI X fp_12_198 k_M_0_0 rfl rfl dX12_mark_7 ?_
  refine r_aload_n X 0 dX12_mark_10 rfl rfl ?_
  refine r_iload_n X 1 dX12_mark_11 rfl rfl ?_
  obtain ⟨q3, hq3, hf⟩ := bd_some hf
  refine r_callVI X (As := [mI x1]) (st := []) (as := fun ad => [.ref (ad 0), mI x1]) (c_M_isJudge hq3) rfl yw_X12_isJudge yv_X12_isJudge ml_RX12_219 o_M_0 rfl rfl ⟨rfl, rfl⟩ ⟨Nat.le_of_ble_eq_true rfl, Nat.le_of_ble_eq_true rfl⟩ rfl rfl (Nat.le_of_ble_eq_true rfl) dX12_mark_12 ?_
  refine r_if_eq (tgt := 26) X dX12_mark_15 (by decide) (fun hc4 => ?_) (fun hc4 => ?_)
  · have hf := ite_yes hc4 hf
    refine r_perm (lv2 := [(0, .ref (ad 0))]) [0] rfl ?_
    exact b_M_mark_26_ok X  hf
  · have hf := ite_no hc4 hf
    refine r_aload_n X 0 dX12_mark_18 rfl rfl ?_
    refine r_iload_n X 2 dX12_mark_19 rfl rfl ?_
    obtain ⟨q5, hq5, hf⟩ := bd_some hf
    refine r_callVI X (As := [mI x2]) (st := []) (as := fun ad => [.ref (ad 0), mI x2]) (c_M_isBoard hq5) rfl yw_X12_isBoard yv_X12_isBoard ml_RX12_211 o_M_0 rfl rfl ⟨rfl, rfl⟩ ⟨Nat.le_of_ble_eq_true rfl, Nat.le_of_ble_eq_true rfl⟩ rfl rfl (Nat.le_of_ble_eq_true rfl) dX12_mark_20 ?_
    refine r_if_ne (tgt := 32) X dX12_mark_23 (by decide) (fun hc6 => ?_) (fun hc6 => ?_)
    · have hf := ite_yes hc6 hf
      refine r_perm (lv2 := [(0, .ref (ad 0))]) [0] rfl ?_
      exact b_M_mark_26_ok X  hf
    · have hf := ite_no hc6 hf
      refine r_iload_n X 3 dX12_mark_32 rfl rfl ?_
      refine r_if_lt (tgt := 50) X dX12_mark_33 (by decide) (fun hc7 => ?_) (fun hc7 => ?_)
      · have hf := ite_yes hc7 hf
        refine r_perm (lv2 := [(0, .ref (ad 0))]) [0] rfl ?_
        exact b_M_mark_50_ok X  hf
      · have hf := ite_no hc7 hf
        refine r_iload_n X 3 dX12_mark_36 rfl rfl ?_
        refine r_bipush X dX12_mark_37 (by decide) ?_
        refine r_icmp_gt (tgt := 50) X dX12_mark_39 (by decide) (fun hc8 => ?_) (fun hc8 => ?_)
        · have hf := ite_yes hc8 hf
          refine r_perm (lv2 := [(0, .ref (ad 0))]) [0] rfl ?_
          exact b_M_mark_50_ok X  hf
        · have hf := ite_no hc8 hf
          refine r_iload X 4 dX12_mark_42 rfl ?_
          obtain ⟨q9, hq9, hf⟩ := bd_some hf
          refine r_callSI X (As := [mI x4]) (st := []) (as := fun ad => [mI x4]) (c_M_isDay hq9) rfl yw_X12_isDay ys_X12_isDay ml_RX12_253 ⟨rfl, rfl⟩ ⟨Nat.le_of_ble_eq_true rfl, Nat.le_of_ble_eq_true rfl⟩ rfl rfl (Nat.le_of_ble_eq_true rfl) dX12_mark_44 ?_
          refine r_if_ne (tgt := 56) X dX12_mark_47 (by decide) (fun hc10 => ?_) (fun hc10 => ?_)
          · have hf := ite_yes hc10 hf
            refine r_perm (lv2 := [(0, .ref (ad 0))]) [0] rfl ?_
            exact b_M_mark_50_ok X  hf
          · have hf := ite_no hc10 hf
            refine r_aload_n X 0 dX12_mark_56 rfl rfl ?_
            refine r_getI X fl_12_256 k_M_0_29 dX12_mark_57 ?_
            refine r_sipush X dX12_mark_60 (by decide) ?_
            refine r_icmp_ne (tgt := 72) X dX12_mark_63 (by decide) (fun hc11 => ?_) (fun hc11 => ?_)
            · have hf := ite_yes hc11 hf
              refine r_aload_n X 0 dX12_mark_66 rfl rfl ?_
              refine r_iconst X dX12_mark_67 ?_
              obtain ⟨q12, hq12, hf⟩ := bd_some hf
              refine r_callVI X (As := [mI 3]) (st := []) (as := fun ad => [.ref (ad 0), mI 3]) (c_M_refuse hq12) rfl yw_X12_refuse yv_X12_refuse ml_RX12_201 o_M_0 rfl rfl ⟨rfl, rfl⟩ ⟨Nat.le_of_ble_eq_true rfl, Nat.le_of_ble_eq_true rfl⟩ rfl rfl (Nat.le_of_ble_eq_true rfl) dX12_mark_68 ?_
              exact r_ireturn X hf dX12_mark_71
            · have hf := ite_no hc11 hf
              refine r_aload_n X 0 dX12_mark_72 rfl rfl ?_
              refine r_getR X fl_12_76 k_M_0_30 dX12_mark_73 ?_
              refine r_aload_n X 0 dX12_mark_76 rfl rfl ?_
              refine r_getI X fl_12_256 k_M_0_29 dX12_mark_77 ?_
              refine r_iload_n X 1 dX12_mark_80 rfl rfl ?_
              obtain ⟨hg13, hf⟩ := gd_some hf
              refine r_iast X a_M_20 hg13 dX12_mark_81 ?_
              refine r_aload_n X 0 dX12_mark_82 rfl rfl ?_
              refine r_getR X fl_12_79 k_M_0_31 dX12_mark_83 ?_
              refine r_aload_n X 0 dX12_mark_86 rfl rfl ?_
              refine r_getI X fl_12_256 k_M_0_29 dX12_mark_87 ?_
              refine r_iload_n X 2 dX12_mark_90 rfl rfl ?_
              obtain ⟨hg15, hf⟩ := gd_some hf
              refine r_iast X a_M_21 hg15 dX12_mark_91 ?_
              refine r_aload_n X 0 dX12_mark_92 rfl rfl ?_
              refine r_getR X fl_12_82 k_M_0_32 dX12_mark_93 ?_
              refine r_aload_n X 0 dX12_mark_96 rfl rfl ?_
              refine r_getI X fl_12_256 k_M_0_29 dX12_mark_97 ?_
              refine r_iload_n X 3 dX12_mark_100 rfl rfl ?_
              obtain ⟨hg17, hf⟩ := gd_some hf
              refine r_iast X a_M_22 hg17 dX12_mark_101 ?_
              refine r_aload_n X 0 dX12_mark_102 rfl rfl ?_
              refine r_getR X fl_12_85 k_M_0_33 dX12_mark_103 ?_
              refine r_aload_n X 0 dX12_mark_106 rfl rfl ?_
              refine r_getI X fl_12_256 k_M_0_29 dX12_mark_107 ?_
              refine r_iload X 4 dX12_mark_110 rfl ?_
              obtain ⟨hg19, hf⟩ := gd_some hf
              refine r_iast X a_M_23 hg19 dX12_mark_112 ?_
              refine r_aload_n X 0 dX12_mark_113 rfl rfl ?_
              refine r_getR X fl_12_88 k_M_0_34 dX12_mark_114 ?_
              refine r_aload_n X 0 dX12_mark_117 rfl rfl ?_
              refine r_getI X fl_12_256 k_M_0_29 dX12_mark_118 ?_
              refine r_iconst X dX12_mark_121 ?_
              obtain ⟨hg21, hf⟩ := gd_some hf
              refine r_iast X a_M_24 hg21 dX12_mark_122 ?_
              refine r_aload_n X 0 dX12_mark_123 rfl rfl ?_
              refine r_dup X dX12_mark_124 rfl ?_
              refine r_getI X fl_12_256 k_M_0_29 dX12_mark_125 ?_
              refine r_iconst X dX12_mark_128 ?_
              refine r_iadd X dX12_mark_129 ?_
              refine r_putI X fp_12_256 k_M_0_29 rfl rfl dX12_mark_130 ?_
              refine r_aload_n X 0 dX12_mark_133 rfl rfl ?_
              refine r_getI X fl_12_256 k_M_0_29 dX12_mark_134 ?_
              refine r_iconst X dX12_mark_137 ?_
              refine r_isub X dX12_mark_138 ?_
              exact r_ireturn X hf dX12_mark_139
set_option maxRecDepth 100000 in
set_option maxHeartbeats 4000000 in
theorem b_M_lose_22_ok {p : Program} {l : Launch} {e : Env} {s : State} {m : MethodId} {args : Array Value} {below : List Frame} {meth : Method} {c : Code} {D : va_G} {cy : Nat → ClassId} {ad : Nat → Nat} (X : CX p s m args meth c cX12_lose RX12 3 (some .boolean) D shM cy ad (aw shM ad)) {F : Nat} {q : Int × St} {sg : St} (hf : b_M_lose_22  F  sg  = some q) : GG p l e rm_M_lose s m args below meth c (QI D shM cy ad below args s q) D shM cy ad (aw shM ad) 3 22 [(0, .ref (ad 0))] [] sg := by
  refine r_aload_n X 0 dX12_lose_22 rfl rfl ?_
  refine r_iconst X dX12_lose_23 ?_
  obtain ⟨q1, hq1, hf⟩ := bd_some hf
  refine r_callVI X (As := [mI 1]) (st := []) (as := fun ad => [.ref (ad 0), mI 1]) (c_M_no hq1) rfl yw_X12_no yv_X12_no ml_RX12_222 o_M_0 rfl rfl ⟨rfl, rfl⟩ ⟨Nat.le_of_ble_eq_true rfl, Nat.le_of_ble_eq_true rfl⟩ rfl rfl (Nat.le_of_ble_eq_true rfl) dX12_lose_24 ?_
  obtain ⟨hz2, hf⟩ := gd_some hf
  exact r_zreturn X hf (zn_of hz2) dX12_lose_27
set_option maxRecDepth 100000 in
set_option maxHeartbeats 4000000 in
theorem c_M_lose {l : Launch} {sg : St} {x1 x2 : Int} {q : Int × St} (hf : f_M_lose  sg x1 x2 = some q) : MI l shM yX12_lose cX12_lose 3 (some .boolean) rm_M_lose (fun ad => [.ref (ad 0), mI x1, mI x2]) sg q.2 q.1 := by
  refine mk_i (by decide) (fun _ => Nat.le_of_ble_eq_true rfl) (fun p e s m args below meth c D cy ad X => ?_)
  have X : CX p s m args meth c cX12_lose RX12 3 (some .boolean) D shM cy ad (aw shM ad) := X
  refine r_perm (lv2 := [(0, .ref (ad 0)), (1, mI x1), (2, mI x2)]) [0, 1, 2] rfl ?_
  refine r_aload_n X 0 dX12_lose_0 rfl rfl ?_
  refine r_iconst X dX12_lose_1 ?_
  refine r_putI X fp_12_195 k_M_0_1 rfl rfl dX12_lose_2 ?_
  refine r_aload_n X 0 dX12_lose_5 rfl rfl ?_
  refine r_iconst X dX12_lose_6 ?_
  refine r_putI X fp_12_198 k_M_0_0 rfl rfl dX12_lose_7 ?_
  refine r_iload_n X 1 dX12_lose_10 rfl rfl ?_
  refine r_if_lt (tgt := 22) X dX12_lose_11 (by decide) (fun hc3 => ?_) (fun hc3 => ?_)
  · have hf := ite_yes hc3 hf
    refine r_perm (lv2 := [(0, .ref (ad 0))]) [0] rfl ?_
    exact b_M_lose_22_ok X  hf
  · have hf := ite_no hc3 hf
    refine r_iload_n X 1 dX12_lose_14 rfl rfl ?_
    refine r_aload_n X 0 dX12_lose_15 rfl rfl ?_
    refine r_getI X fl_12_256 k_M_0_29 dX12_lose_16 ?_
    refine r_icmp_lt (tgt := 28) X dX12_lose_19 (by decide) (fun hc4 => ?_) (fun hc4 => ?_)
    · have hf := ite_yes hc4 hf
      refine r_iload_n X 2 dX12_lose_28 rfl rfl ?_
      obtain ⟨q5, hq5, hf⟩ := bd_some hf
      refine r_callSI X (As := [mI x2]) (st := []) (as := fun ad => [mI x2]) (c_M_isDay hq5) rfl yw_X12_isDay ys_X12_isDay ml_RX12_253 ⟨rfl, rfl⟩ ⟨Nat.le_of_ble_eq_true rfl, Nat.le_of_ble_eq_true rfl⟩ rfl rfl (Nat.le_of_ble_eq_true rfl) dX12_lose_29 ?_
      refine r_if_ne (tgt := 41) X dX12_lose_32 (by decide) (fun hc6 => ?_) (fun hc6 => ?_)
      · have hf := ite_yes hc6 hf
        refine r_aload_n X 0 dX12_lose_35 rfl rfl ?_
        refine r_iconst X dX12_lose_36 ?_
        obtain ⟨q7, hq7, hf⟩ := bd_some hf
        refine r_callVI X (As := [mI 2]) (st := []) (as := fun ad => [.ref (ad 0), mI 2]) (c_M_no hq7) rfl yw_X12_no yv_X12_no ml_RX12_222 o_M_0 rfl rfl ⟨rfl, rfl⟩ ⟨Nat.le_of_ble_eq_true rfl, Nat.le_of_ble_eq_true rfl⟩ rfl rfl (Nat.le_of_ble_eq_true rfl) dX12_lose_37 ?_
        obtain ⟨hz8, hf⟩ := gd_some hf
        exact r_zreturn X hf (zn_of hz8) dX12_lose_40
      · have hf := ite_no hc6 hf
        refine r_aload_n X 0 dX12_lose_41 rfl rfl ?_
        refine r_getR X fl_12_88 k_M_0_34 dX12_lose_42 ?_
        refine r_iload_n X 1 dX12_lose_45 rfl rfl ?_
        obtain ⟨hg9, hf⟩ := gd_some hf
        refine r_iald X a_M_24 hg9 dX12_lose_46 ?_
        refine r_if_lt (tgt := 56) X dX12_lose_47 (by decide) (fun hc10 => ?_) (fun hc10 => ?_)
        · have hf := ite_yes hc10 hf
          refine r_aload_n X 0 dX12_lose_56 rfl rfl ?_
          refine r_getR X fl_12_88 k_M_0_34 dX12_lose_57 ?_
          refine r_iload_n X 1 dX12_lose_60 rfl rfl ?_
          refine r_iload_n X 2 dX12_lose_61 rfl rfl ?_
          obtain ⟨hg13, hf⟩ := gd_some hf
          refine r_iast X a_M_24 hg13 dX12_lose_62 ?_
          refine r_iconst X dX12_lose_63 ?_
          exact r_zreturn X hf rfl dX12_lose_64
        · have hf := ite_no hc10 hf
          refine r_aload_n X 0 dX12_lose_50 rfl rfl ?_
          refine r_iconst X dX12_lose_51 ?_
          obtain ⟨q11, hq11, hf⟩ := bd_some hf
          refine r_callVI X (As := [mI 5]) (st := []) (as := fun ad => [.ref (ad 0), mI 5]) (c_M_no hq11) rfl yw_X12_no yv_X12_no ml_RX12_222 o_M_0 rfl rfl ⟨rfl, rfl⟩ ⟨Nat.le_of_ble_eq_true rfl, Nat.le_of_ble_eq_true rfl⟩ rfl rfl (Nat.le_of_ble_eq_true rfl) dX12_lose_52 ?_
          obtain ⟨hz12, hf⟩ := gd_some hf
          exact r_zreturn X hf (zn_of hz12) dX12_lose_55
    · have hf := ite_no hc4 hf
      refine r_perm (lv2 := [(0, .ref (ad 0))]) [0] rfl ?_
      exact b_M_lose_22_ok X  hf
set_option maxRecDepth 100000 in
set_option maxHeartbeats 4000000 in
theorem b_M_known_252_ok {p : Program} {l : Launch} {e : Env} {s : State} {m : MethodId} {args : Array Value} {below : List Frame} {meth : Method} {c : Code} {D : va_G} {cy : Nat → ClassId} {ad : Nat → Nat} (X : CX p s m args meth c cX12_known RX12 6 none D shM cy ad (aw shM ad)) {F : Nat} {kc : St → Int → Int → Int → Int → Option (St)} {k307 : St → Int → Int → Option (St)} {q : St} (hkc : ∀ sg x2 x3 x4 x5, kc sg x2 x3 x4 x5 = some q → GG p l e rm_M_known s m args below meth c (QV D shM cy ad below args s q) D shM cy ad (aw shM ad) 6 252 [(0, .ref (ad 0)), (2, mI x2), (3, mI x3), (4, mI x4), (5, mI x5)] [] sg) (hk307 : ∀ sg x2 x3, k307 sg x2 x3 = some q → GG p l e rm_M_known s m args below meth c (QV D shM cy ad below args s q) D shM cy ad (aw shM ad) 6 307 [(0, .ref (ad 0)), (2, mI x2), (3, mI x3)] [] sg) {sg : St} {x2 x3 x4 x5 : Int} (hf : b_M_known_252  F kc k307 sg x2 x3 x4 x5 = some q) : GG p l e rm_M_known s m args below meth c (QV D shM cy ad below args s q) D shM cy ad (aw shM ad) 6 252 [(0, .ref (ad 0)), (2, mI x2), (3, mI x3), (4, mI x4), (5, mI x5)] [] sg := by
  refine r_iload X 4 dX12_known_252 rfl ?_
  refine r_aload_n X 0 dX12_known_254 rfl rfl ?_
  refine r_getI X fl_12_208 k_M_0_5 dX12_known_255 ?_
  refine r_icmp_ge (tgt := 307) X dX12_known_258 (by decide) (fun hc1 => ?_) (fun hc1 => ?_)
  · have hf := ite_yes hc1 hf
    refine r_perm (lv2 := [(0, .ref (ad 0)), (2, mI x2), (3, mI x3)]) [0, 1, 2] rfl ?_
    exact hk307 _ _ _ hf
  · have hf := ite_no hc1 hf
    refine r_aload_n X 0 dX12_known_261 rfl rfl ?_
    refine r_getR X fl_12_91 k_M_0_35 dX12_known_262 ?_
    refine r_iload_n X 2 dX12_known_265 rfl rfl ?_
    refine r_iload X 4 dX12_known_266 rfl ?_
    obtain ⟨q2, hq2, hf⟩ := bd_some hf
    refine r_callSI X (As := [mI x3, mI x5]) (st := [.ref (ad 25)]) (as := fun ad => [mI x3, mI x5]) (c_M_at hq2) rfl yw_X12_at ys_X12_at ml_RX12_225 ⟨rfl, rfl⟩ ⟨Nat.le_of_ble_eq_true rfl, Nat.le_of_ble_eq_true rfl⟩ rfl rfl (Nat.le_of_ble_eq_true rfl) dX12_known_268 ?_
    obtain ⟨hg3, hf⟩ := gd_some hf
    refine r_iald X a_M_25 hg3 dX12_known_271 ?_
    refine r_if_lt (tgt := 301) X dX12_known_272 (by decide) (fun hc4 => ?_) (fun hc4 => ?_)
    · have hf := ite_yes hc4 hf
      refine r_iinc (lv2 := [(5, mI (x5 + 1)), (0, .ref (ad 0)), (2, mI x2), (3, mI x3), (4, mI x4)]) X 4 dX12_known_301 rfl (by decide) rfl ?_
      refine r_goto (tgt := 252) X dX12_known_304 (by decide) ?_
      refine r_perm (lv2 := [(0, .ref (ad 0)), (2, mI x2), (3, mI x3), (4, mI x4), (5, mI (x5 + 1))]) [1, 2, 3, 4, 0] rfl ?_
      exact hkc _ _ _ _ _ hf
    · have hf := ite_no hc4 hf
      refine r_aload_n X 0 dX12_known_275 rfl rfl ?_
      refine r_getR X fl_12_94 k_M_0_36 dX12_known_276 ?_
      refine r_iload X 4 dX12_known_279 rfl ?_
      obtain ⟨hg5, hf⟩ := gd_some hf
      refine r_iald X a_M_26 hg5 dX12_known_281 ?_
      refine r_iload X 3 dX12_known_282 rfl ?_
      refine r_icmp_ne (tgt := 290) X dX12_known_284 (by decide) (fun hc6 => ?_) (fun hc6 => ?_)
      · have hf := ite_yes hc6 hf
        refine r_goto (tgt := 301) X dX12_known_287 (by decide) ?_
        refine r_iinc (lv2 := [(5, mI (x5 + 1)), (0, .ref (ad 0)), (2, mI x2), (3, mI x3), (4, mI x4)]) X 4 dX12_known_301 rfl (by decide) rfl ?_
        refine r_goto (tgt := 252) X dX12_known_304 (by decide) ?_
        refine r_perm (lv2 := [(0, .ref (ad 0)), (2, mI x2), (3, mI x3), (4, mI x4), (5, mI (x5 + 1))]) [1, 2, 3, 4, 0] rfl ?_
        exact hkc _ _ _ _ _ hf
      · have hf := ite_no hc6 hf
        refine r_aload_n X 0 dX12_known_290 rfl rfl ?_
        refine r_getR X fl_12_94 k_M_0_36 dX12_known_291 ?_
        refine r_iload X 4 dX12_known_294 rfl ?_
        refine r_iload X 3 dX12_known_296 rfl ?_
        obtain ⟨hg7, hf⟩ := gd_some hf
        refine r_iast X a_M_26 hg7 dX12_known_298 ?_
        refine r_iconst X dX12_known_299 ?_
        refine r_istore_n (lv2 := [(2, mI 1), (0, .ref (ad 0)), (3, mI x3), (4, mI x4), (5, mI x5)]) X dX12_known_300 rfl (by decide) rfl ?_
        refine r_iinc (lv2 := [(5, mI (x5 + 1)), (2, mI 1), (0, .ref (ad 0)), (3, mI x3), (4, mI x4)]) X 4 dX12_known_301 rfl (by decide) rfl ?_
        refine r_goto (tgt := 252) X dX12_known_304 (by decide) ?_
        refine r_perm (lv2 := [(0, .ref (ad 0)), (2, mI 1), (3, mI x3), (4, mI x4), (5, mI (x5 + 1))]) [2, 1, 3, 4, 0] rfl ?_
        exact hkc _ _ _ _ _ hf
set_option maxRecDepth 100000 in
set_option maxHeartbeats 4000000 in
theorem l_M_known_252_ok {p : Program} {l : Launch} {e : Env} {s : State} {m : MethodId} {args : Array Value} {below : List Frame} {meth : Method} {c : Code} {D : va_G} {cy : Nat → ClassId} {ad : Nat → Nat} (X : CX p s m args meth c cX12_known RX12 6 none D shM cy ad (aw shM ad)) {F : Nat} {k307 : St → Int → Int → Option (St)} {q : St} (hk307 : ∀ sg x2 x3, k307 sg x2 x3 = some q → GG p l e rm_M_known s m args below meth c (QV D shM cy ad below args s q) D shM cy ad (aw shM ad) 6 307 [(0, .ref (ad 0)), (2, mI x2), (3, mI x3)] [] sg) : ∀ (n : Nat) (sg : St) (x2 x3 x4 x5 : Int), l_M_known_252  F k307 n sg x2 x3 x4 x5 = some q → GG p l e rm_M_known s m args below meth c (QV D shM cy ad below args s q) D shM cy ad (aw shM ad) 6 252 [(0, .ref (ad 0)), (2, mI x2), (3, mI x3), (4, mI x4), (5, mI x5)] [] sg := by
  intro n
  induction n with
  | zero => intro sg x2 x3 x4 x5 h; cases h
  | succ n ih => exact fun sg x2 x3 x4 x5 h => b_M_known_252_ok X ih hk307 h
set_option maxRecDepth 100000 in
set_option maxHeartbeats 4000000 in
theorem b_M_known_206_ok {p : Program} {l : Launch} {e : Env} {s : State} {m : MethodId} {args : Array Value} {below : List Frame} {meth : Method} {c : Code} {D : va_G} {cy : Nat → ClassId} {ad : Nat → Nat} (X : CX p s m args meth c cX12_known RX12 6 none D shM cy ad (aw shM ad)) {F : Nat} {kc : St → Int → Int → Int → Int → Option (St)} {k249 : St → Int → Int → Int → Option (St)} {q : St} (hkc : ∀ sg x2 x3 x4 x5, kc sg x2 x3 x4 x5 = some q → GG p l e rm_M_known s m args below meth c (QV D shM cy ad below args s q) D shM cy ad (aw shM ad) 6 206 [(0, .ref (ad 0)), (2, mI x2), (3, mI x3), (4, mI x4), (5, mI x5)] [] sg) (hk249 : ∀ sg x2 x3 x4, k249 sg x2 x3 x4 = some q → GG p l e rm_M_known s m args below meth c (QV D shM cy ad below args s q) D shM cy ad (aw shM ad) 6 249 [(0, .ref (ad 0)), (2, mI x2), (3, mI x3), (4, mI x4)] [] sg) {sg : St} {x2 x3 x4 x5 : Int} (hf : b_M_known_206  F kc k249 sg x2 x3 x4 x5 = some q) : GG p l e rm_M_known s m args below meth c (QV D shM cy ad below args s q) D shM cy ad (aw shM ad) 6 206 [(0, .ref (ad 0)), (2, mI x2), (3, mI x3), (4, mI x4), (5, mI x5)] [] sg := by
  refine r_iload X 4 dX12_known_206 rfl ?_
  refine r_aload_n X 0 dX12_known_208 rfl rfl ?_
  refine r_getI X fl_12_208 k_M_0_5 dX12_known_209 ?_
  refine r_icmp_ge (tgt := 249) X dX12_known_212 (by decide) (fun hc1 => ?_) (fun hc1 => ?_)
  · have hf := ite_yes hc1 hf
    refine r_perm (lv2 := [(0, .ref (ad 0)), (2, mI x2), (3, mI x3), (4, mI x4)]) [0, 1, 2, 3] rfl ?_
    exact hk249 _ _ _ _ hf
  · have hf := ite_no hc1 hf
    refine r_aload_n X 0 dX12_known_215 rfl rfl ?_
    refine r_getR X fl_12_91 k_M_0_35 dX12_known_216 ?_
    refine r_iload_n X 2 dX12_known_219 rfl rfl ?_
    refine r_iload X 4 dX12_known_220 rfl ?_
    obtain ⟨q2, hq2, hf⟩ := bd_some hf
    refine r_callSI X (As := [mI x3, mI x5]) (st := [.ref (ad 25)]) (as := fun ad => [mI x3, mI x5]) (c_M_at hq2) rfl yw_X12_at ys_X12_at ml_RX12_225 ⟨rfl, rfl⟩ ⟨Nat.le_of_ble_eq_true rfl, Nat.le_of_ble_eq_true rfl⟩ rfl rfl (Nat.le_of_ble_eq_true rfl) dX12_known_222 ?_
    obtain ⟨hg3, hf⟩ := gd_some hf
    refine r_iald X a_M_25 hg3 dX12_known_225 ?_
    refine r_if_lt (tgt := 243) X dX12_known_226 (by decide) (fun hc4 => ?_) (fun hc4 => ?_)
    · have hf := ite_yes hc4 hf
      refine r_iinc (lv2 := [(5, mI (x5 + 1)), (0, .ref (ad 0)), (2, mI x2), (3, mI x3), (4, mI x4)]) X 4 dX12_known_243 rfl (by decide) rfl ?_
      refine r_goto (tgt := 206) X dX12_known_246 (by decide) ?_
      refine r_perm (lv2 := [(0, .ref (ad 0)), (2, mI x2), (3, mI x3), (4, mI x4), (5, mI (x5 + 1))]) [1, 2, 3, 4, 0] rfl ?_
      exact hkc _ _ _ _ _ hf
    · have hf := ite_no hc4 hf
      refine r_iload X 3 dX12_known_229 rfl ?_
      refine r_aload_n X 0 dX12_known_231 rfl rfl ?_
      refine r_getR X fl_12_94 k_M_0_36 dX12_known_232 ?_
      refine r_iload X 4 dX12_known_235 rfl ?_
      obtain ⟨hg5, hf⟩ := gd_some hf
      refine r_iald X a_M_26 hg5 dX12_known_237 ?_
      obtain ⟨q6, hq6, hf⟩ := bd_some hf
      refine r_callSI X (As := [mI x4, mI (q2.2 26 (ix x5))]) (st := []) (as := fun ad => [mI x4, mI (q2.2 26 (ix x5))]) (c_MJ_min hq6) rfl yw_J9_min_7cf53 ys_J9_min_7cf53 ml_RX12_259 ⟨rfl, rfl⟩ ⟨Nat.le_of_ble_eq_true rfl, Nat.le_of_ble_eq_true rfl⟩ rfl rfl (Nat.le_of_ble_eq_true rfl) dX12_known_238 ?_
      refine r_istore (lv2 := [(4, mI q6.1), (0, .ref (ad 0)), (2, mI x2), (3, mI x3), (5, mI x5)]) X dX12_known_241 (by decide) rfl ?_
      refine r_iinc (lv2 := [(5, mI (x5 + 1)), (4, mI q6.1), (0, .ref (ad 0)), (2, mI x2), (3, mI x3)]) X 4 dX12_known_243 rfl (by decide) rfl ?_
      refine r_goto (tgt := 206) X dX12_known_246 (by decide) ?_
      refine r_perm (lv2 := [(0, .ref (ad 0)), (2, mI x2), (3, mI x3), (4, mI q6.1), (5, mI (x5 + 1))]) [2, 3, 4, 1, 0] rfl ?_
      exact hkc _ _ _ _ _ hf
set_option maxRecDepth 100000 in
set_option maxHeartbeats 4000000 in
theorem l_M_known_206_ok {p : Program} {l : Launch} {e : Env} {s : State} {m : MethodId} {args : Array Value} {below : List Frame} {meth : Method} {c : Code} {D : va_G} {cy : Nat → ClassId} {ad : Nat → Nat} (X : CX p s m args meth c cX12_known RX12 6 none D shM cy ad (aw shM ad)) {F : Nat} {k249 : St → Int → Int → Int → Option (St)} {q : St} (hk249 : ∀ sg x2 x3 x4, k249 sg x2 x3 x4 = some q → GG p l e rm_M_known s m args below meth c (QV D shM cy ad below args s q) D shM cy ad (aw shM ad) 6 249 [(0, .ref (ad 0)), (2, mI x2), (3, mI x3), (4, mI x4)] [] sg) : ∀ (n : Nat) (sg : St) (x2 x3 x4 x5 : Int), l_M_known_206  F k249 n sg x2 x3 x4 x5 = some q → GG p l e rm_M_known s m args below meth c (QV D shM cy ad below args s q) D shM cy ad (aw shM ad) 6 206 [(0, .ref (ad 0)), (2, mI x2), (3, mI x3), (4, mI x4), (5, mI x5)] [] sg := by
  intro n
  induction n with
  | zero => intro sg x2 x3 x4 x5 h; cases h
  | succ n ih => exact fun sg x2 x3 x4 x5 h => b_M_known_206_ok X ih hk249 h
set_option maxRecDepth 100000 in
set_option maxHeartbeats 4000000 in
theorem b_M_known_191_ok {p : Program} {l : Launch} {e : Env} {s : State} {m : MethodId} {args : Array Value} {below : List Frame} {meth : Method} {c : Code} {D : va_G} {cy : Nat → ClassId} {ad : Nat → Nat} (X : CX p s m args meth c cX12_known RX12 6 none D shM cy ad (aw shM ad)) {F : Nat} {kc : St → Int → Int → Option (St)} {k313 : St → Int → Option (St)} {q : St} (hkc : ∀ sg x2 x3, kc sg x2 x3 = some q → GG p l e rm_M_known s m args below meth c (QV D shM cy ad below args s q) D shM cy ad (aw shM ad) 6 191 [(0, .ref (ad 0)), (2, mI x2), (3, mI x3)] [] sg) (hk313 : ∀ sg x2, k313 sg x2 = some q → GG p l e rm_M_known s m args below meth c (QV D shM cy ad below args s q) D shM cy ad (aw shM ad) 6 313 [(0, .ref (ad 0)), (2, mI x2)] [] sg) {sg : St} {x2 x3 : Int} (hf : b_M_known_191  F kc k313 sg x2 x3 = some q) : GG p l e rm_M_known s m args below meth c (QV D shM cy ad below args s q) D shM cy ad (aw shM ad) 6 191 [(0, .ref (ad 0)), (2, mI x2), (3, mI x3)] [] sg := by
  refine r_iload_n X 2 dX12_known_191 rfl rfl ?_
  refine r_aload_n X 0 dX12_known_192 rfl rfl ?_
  refine r_getI X fl_12_205 k_M_0_4 dX12_known_193 ?_
  refine r_icmp_ge (tgt := 313) X dX12_known_196 (by decide) (fun hc1 => ?_) (fun hc1 => ?_)
  · have hf := ite_yes hc1 hf
    refine r_perm (lv2 := [(0, .ref (ad 0)), (2, mI x2)]) [0, 1] rfl ?_
    exact hk313 _ _ hf
  · have hf := ite_no hc1 hf
    refine r_bipush X dX12_known_199 (by decide) ?_
    refine r_istore (lv2 := [(4, mI 12), (0, .ref (ad 0)), (2, mI x2), (3, mI x3)]) X dX12_known_201 (by decide) rfl ?_
    refine r_iconst X dX12_known_203 ?_
    refine r_istore (lv2 := [(5, mI 0), (4, mI 12), (0, .ref (ad 0)), (2, mI x2), (3, mI x3)]) X dX12_known_204 (by decide) rfl ?_
    refine r_perm (lv2 := [(0, .ref (ad 0)), (2, mI x2), (3, mI x3), (4, mI 12), (5, mI 0)]) [2, 3, 4, 1, 0] rfl ?_
    refine l_M_known_206_ok X ?_ F _ _ _ _ _ hf
    · intro s2 x2_3 x3_4 x4_5 hf
      refine r_iconst X dX12_known_249 ?_
      refine r_istore (lv2 := [(5, mI 0), (0, .ref (ad 0)), (2, mI x2_3), (3, mI x3_4), (4, mI x4_5)]) X dX12_known_250 (by decide) rfl ?_
      refine r_perm (lv2 := [(0, .ref (ad 0)), (2, mI x2_3), (3, mI x3_4), (4, mI x4_5), (5, mI 0)]) [1, 2, 3, 4, 0] rfl ?_
      refine l_M_known_252_ok X ?_ F _ _ _ _ _ hf
      · intro s6 x2_7 x3_8 hf
        refine r_iinc (lv2 := [(3, mI (x3_8 + 1)), (0, .ref (ad 0)), (2, mI x2_7)]) X 2 dX12_known_307 rfl (by decide) rfl ?_
        refine r_goto (tgt := 191) X dX12_known_310 (by decide) ?_
        refine r_perm (lv2 := [(0, .ref (ad 0)), (2, mI x2_7), (3, mI (x3_8 + 1))]) [1, 2, 0] rfl ?_
        exact hkc _ _ _ hf
set_option maxRecDepth 100000 in
set_option maxHeartbeats 4000000 in
theorem l_M_known_191_ok {p : Program} {l : Launch} {e : Env} {s : State} {m : MethodId} {args : Array Value} {below : List Frame} {meth : Method} {c : Code} {D : va_G} {cy : Nat → ClassId} {ad : Nat → Nat} (X : CX p s m args meth c cX12_known RX12 6 none D shM cy ad (aw shM ad)) {F : Nat} {k313 : St → Int → Option (St)} {q : St} (hk313 : ∀ sg x2, k313 sg x2 = some q → GG p l e rm_M_known s m args below meth c (QV D shM cy ad below args s q) D shM cy ad (aw shM ad) 6 313 [(0, .ref (ad 0)), (2, mI x2)] [] sg) : ∀ (n : Nat) (sg : St) (x2 x3 : Int), l_M_known_191  F k313 n sg x2 x3 = some q → GG p l e rm_M_known s m args below meth c (QV D shM cy ad below args s q) D shM cy ad (aw shM ad) 6 191 [(0, .ref (ad 0)), (2, mI x2), (3, mI x3)] [] sg := by
  intro n
  induction n with
  | zero => intro sg x2 x3 h; cases h
  | succ n ih => exact fun sg x2 x3 h => b_M_known_191_ok X ih hk313 h
set_option maxRecDepth 100000 in
set_option maxHeartbeats 4000000 in
theorem b_M_known_183_ok {p : Program} {l : Launch} {e : Env} {s : State} {m : MethodId} {args : Array Value} {below : List Frame} {meth : Method} {c : Code} {D : va_G} {cy : Nat → ClassId} {ad : Nat → Nat} (X : CX p s m args meth c cX12_known RX12 6 none D shM cy ad (aw shM ad)) {F : Nat} {kc : St → Int → Option (St)} {k316 : St → Option (St)} {q : St} (hkc : ∀ sg x2, kc sg x2 = some q → GG p l e rm_M_known s m args below meth c (QV D shM cy ad below args s q) D shM cy ad (aw shM ad) 6 183 [(0, .ref (ad 0)), (2, mI x2)] [] sg) (hk316 : ∀ sg , k316 sg  = some q → GG p l e rm_M_known s m args below meth c (QV D shM cy ad below args s q) D shM cy ad (aw shM ad) 6 316 [] [] sg) {sg : St} {x2 : Int} (hf : b_M_known_183  F kc k316 sg x2 = some q) : GG p l e rm_M_known s m args below meth c (QV D shM cy ad below args s q) D shM cy ad (aw shM ad) 6 183 [(0, .ref (ad 0)), (2, mI x2)] [] sg := by
  refine r_iload_n X 1 dX12_known_183 rfl rfl ?_
  refine r_if_eq (tgt := 316) X dX12_known_184 (by decide) (fun hc1 => ?_) (fun hc1 => ?_)
  · have hf := ite_yes hc1 hf
    refine r_perm (lv2 := []) [] rfl ?_
    exact hk316 _ hf
  · have hf := ite_no hc1 hf
    refine r_iconst X dX12_known_187 ?_
    refine r_istore_n (lv2 := [(2, mI 0), (0, .ref (ad 0))]) X dX12_known_188 rfl (by decide) rfl ?_
    refine r_iconst X dX12_known_189 ?_
    refine r_istore_n (lv2 := [(3, mI 0), (2, mI 0), (0, .ref (ad 0))]) X dX12_known_190 rfl (by decide) rfl ?_
    refine r_perm (lv2 := [(0, .ref (ad 0)), (2, mI 0), (3, mI 0)]) [2, 1, 0] rfl ?_
    refine l_M_known_191_ok X ?_ F _ _ _ hf
    · intro s2 x2_3 hf
      refine r_goto (tgt := 183) X dX12_known_313 (by decide) ?_
      exact hkc _ _ hf
set_option maxRecDepth 100000 in
set_option maxHeartbeats 4000000 in
theorem l_M_known_183_ok {p : Program} {l : Launch} {e : Env} {s : State} {m : MethodId} {args : Array Value} {below : List Frame} {meth : Method} {c : Code} {D : va_G} {cy : Nat → ClassId} {ad : Nat → Nat} (X : CX p s m args meth c cX12_known RX12 6 none D shM cy ad (aw shM ad)) {F : Nat} {k316 : St → Option (St)} {q : St} (hk316 : ∀ sg , k316 sg  = some q → GG p l e rm_M_known s m args below meth c (QV D shM cy ad below args s q) D shM cy ad (aw shM ad) 6 316 [] [] sg) : ∀ (n : Nat) (sg : St) (x2 : Int), l_M_known_183  F k316 n sg x2 = some q → GG p l e rm_M_known s m args below meth c (QV D shM cy ad below args s q) D shM cy ad (aw shM ad) 6 183 [(0, .ref (ad 0)), (2, mI x2)] [] sg := by
  intro n
  induction n with
  | zero => intro sg x2 h; cases h
  | succ n ih => exact fun sg x2 h => b_M_known_183_ok X ih hk316 h
set_option maxRecDepth 100000 in
set_option maxHeartbeats 4000000 in
theorem b_M_known_141_ok {p : Program} {l : Launch} {e : Env} {s : State} {m : MethodId} {args : Array Value} {below : List Frame} {meth : Method} {c : Code} {D : va_G} {cy : Nat → ClassId} {ad : Nat → Nat} (X : CX p s m args meth c cX12_known RX12 6 none D shM cy ad (aw shM ad)) {F : Nat} {kc : St → Int → Int → Option (St)} {k175 : St → Int → Option (St)} {q : St} (hkc : ∀ sg x2 x3, kc sg x2 x3 = some q → GG p l e rm_M_known s m args below meth c (QV D shM cy ad below args s q) D shM cy ad (aw shM ad) 6 141 [(0, .ref (ad 0)), (2, mI x2), (3, mI x3)] [] sg) (hk175 : ∀ sg x2, k175 sg x2 = some q → GG p l e rm_M_known s m args below meth c (QV D shM cy ad below args s q) D shM cy ad (aw shM ad) 6 175 [(0, .ref (ad 0)), (2, mI x2)] [] sg) {sg : St} {x2 x3 : Int} (hf : b_M_known_141  F kc k175 sg x2 x3 = some q) : GG p l e rm_M_known s m args below meth c (QV D shM cy ad below args s q) D shM cy ad (aw shM ad) 6 141 [(0, .ref (ad 0)), (2, mI x2), (3, mI x3)] [] sg := by
  refine r_iload_n X 2 dX12_known_141 rfl rfl ?_
  refine r_aload_n X 0 dX12_known_142 rfl rfl ?_
  refine r_getI X fl_12_205 k_M_0_4 dX12_known_143 ?_
  refine r_icmp_ge (tgt := 175) X dX12_known_146 (by decide) (fun hc1 => ?_) (fun hc1 => ?_)
  · have hf := ite_yes hc1 hf
    refine r_perm (lv2 := [(0, .ref (ad 0)), (2, mI x2)]) [0, 1] rfl ?_
    exact hk175 _ _ hf
  · have hf := ite_no hc1 hf
    refine r_aload_n X 0 dX12_known_149 rfl rfl ?_
    refine r_getR X fl_12_91 k_M_0_35 dX12_known_150 ?_
    refine r_iload_n X 2 dX12_known_153 rfl rfl ?_
    refine r_iload_n X 1 dX12_known_154 rfl rfl ?_
    obtain ⟨q2, hq2, hf⟩ := bd_some hf
    refine r_callSI X (As := [mI x3, mI x2]) (st := [.ref (ad 25)]) (as := fun ad => [mI x3, mI x2]) (c_M_at hq2) rfl yw_X12_at ys_X12_at ml_RX12_225 ⟨rfl, rfl⟩ ⟨Nat.le_of_ble_eq_true rfl, Nat.le_of_ble_eq_true rfl⟩ rfl rfl (Nat.le_of_ble_eq_true rfl) dX12_known_155 ?_
    obtain ⟨hg3, hf⟩ := gd_some hf
    refine r_iald X a_M_25 hg3 dX12_known_158 ?_
    refine r_if_lt (tgt := 169) X dX12_known_159 (by decide) (fun hc4 => ?_) (fun hc4 => ?_)
    · have hf := ite_yes hc4 hf
      refine r_iinc (lv2 := [(3, mI (x3 + 1)), (0, .ref (ad 0)), (2, mI x2)]) X 2 dX12_known_169 rfl (by decide) rfl ?_
      refine r_goto (tgt := 141) X dX12_known_172 (by decide) ?_
      refine r_perm (lv2 := [(0, .ref (ad 0)), (2, mI x2), (3, mI (x3 + 1))]) [1, 2, 0] rfl ?_
      exact hkc _ _ _ hf
    · have hf := ite_no hc4 hf
      refine r_aload_n X 0 dX12_known_162 rfl rfl ?_
      refine r_getR X fl_12_94 k_M_0_36 dX12_known_163 ?_
      refine r_iload_n X 1 dX12_known_166 rfl rfl ?_
      refine r_iload_n X 1 dX12_known_167 rfl rfl ?_
      obtain ⟨hg5, hf⟩ := gd_some hf
      refine r_iast X a_M_26 hg5 dX12_known_168 ?_
      refine r_iinc (lv2 := [(3, mI (x3 + 1)), (0, .ref (ad 0)), (2, mI x2)]) X 2 dX12_known_169 rfl (by decide) rfl ?_
      refine r_goto (tgt := 141) X dX12_known_172 (by decide) ?_
      refine r_perm (lv2 := [(0, .ref (ad 0)), (2, mI x2), (3, mI (x3 + 1))]) [1, 2, 0] rfl ?_
      exact hkc _ _ _ hf
set_option maxRecDepth 100000 in
set_option maxHeartbeats 4000000 in
theorem l_M_known_141_ok {p : Program} {l : Launch} {e : Env} {s : State} {m : MethodId} {args : Array Value} {below : List Frame} {meth : Method} {c : Code} {D : va_G} {cy : Nat → ClassId} {ad : Nat → Nat} (X : CX p s m args meth c cX12_known RX12 6 none D shM cy ad (aw shM ad)) {F : Nat} {k175 : St → Int → Option (St)} {q : St} (hk175 : ∀ sg x2, k175 sg x2 = some q → GG p l e rm_M_known s m args below meth c (QV D shM cy ad below args s q) D shM cy ad (aw shM ad) 6 175 [(0, .ref (ad 0)), (2, mI x2)] [] sg) : ∀ (n : Nat) (sg : St) (x2 x3 : Int), l_M_known_141  F k175 n sg x2 x3 = some q → GG p l e rm_M_known s m args below meth c (QV D shM cy ad below args s q) D shM cy ad (aw shM ad) 6 141 [(0, .ref (ad 0)), (2, mI x2), (3, mI x3)] [] sg := by
  intro n
  induction n with
  | zero => intro sg x2 x3 h; cases h
  | succ n ih => exact fun sg x2 x3 h => b_M_known_141_ok X ih hk175 h
set_option maxRecDepth 100000 in
set_option maxHeartbeats 4000000 in
theorem b_M_known_124_ok {p : Program} {l : Launch} {e : Env} {s : State} {m : MethodId} {args : Array Value} {below : List Frame} {meth : Method} {c : Code} {D : va_G} {cy : Nat → ClassId} {ad : Nat → Nat} (X : CX p s m args meth c cX12_known RX12 6 none D shM cy ad (aw shM ad)) {F : Nat} {kc : St → Int → Option (St)} {k181 : St → Option (St)} {q : St} (hkc : ∀ sg x2, kc sg x2 = some q → GG p l e rm_M_known s m args below meth c (QV D shM cy ad below args s q) D shM cy ad (aw shM ad) 6 124 [(0, .ref (ad 0)), (2, mI x2)] [] sg) (hk181 : ∀ sg , k181 sg  = some q → GG p l e rm_M_known s m args below meth c (QV D shM cy ad below args s q) D shM cy ad (aw shM ad) 6 181 [(0, .ref (ad 0))] [] sg) {sg : St} {x2 : Int} (hf : b_M_known_124  F kc k181 sg x2 = some q) : GG p l e rm_M_known s m args below meth c (QV D shM cy ad below args s q) D shM cy ad (aw shM ad) 6 124 [(0, .ref (ad 0)), (2, mI x2)] [] sg := by
  refine r_iload_n X 1 dX12_known_124 rfl rfl ?_
  refine r_aload_n X 0 dX12_known_125 rfl rfl ?_
  refine r_getI X fl_12_208 k_M_0_5 dX12_known_126 ?_
  refine r_icmp_ge (tgt := 181) X dX12_known_129 (by decide) (fun hc1 => ?_) (fun hc1 => ?_)
  · have hf := ite_yes hc1 hf
    refine r_perm (lv2 := [(0, .ref (ad 0))]) [0] rfl ?_
    exact hk181 _ hf
  · have hf := ite_no hc1 hf
    refine r_aload_n X 0 dX12_known_132 rfl rfl ?_
    refine r_getR X fl_12_94 k_M_0_36 dX12_known_133 ?_
    refine r_iload_n X 1 dX12_known_136 rfl rfl ?_
    refine r_iconst X dX12_known_137 ?_
    obtain ⟨hg2, hf⟩ := gd_some hf
    refine r_iast X a_M_26 hg2 dX12_known_138 ?_
    refine r_iconst X dX12_known_139 ?_
    refine r_istore_n (lv2 := [(3, mI 0), (0, .ref (ad 0)), (2, mI x2)]) X dX12_known_140 rfl (by decide) rfl ?_
    refine r_perm (lv2 := [(0, .ref (ad 0)), (2, mI x2), (3, mI 0)]) [1, 2, 0] rfl ?_
    refine l_M_known_141_ok X ?_ F _ _ _ hf
    · intro s4 x2_5 hf
      refine r_iinc (lv2 := [(2, mI (x2_5 + 1)), (0, .ref (ad 0))]) X 1 dX12_known_175 rfl (by decide) rfl ?_
      refine r_goto (tgt := 124) X dX12_known_178 (by decide) ?_
      refine r_perm (lv2 := [(0, .ref (ad 0)), (2, mI (x2_5 + 1))]) [1, 0] rfl ?_
      exact hkc _ _ hf
set_option maxRecDepth 100000 in
set_option maxHeartbeats 4000000 in
theorem l_M_known_124_ok {p : Program} {l : Launch} {e : Env} {s : State} {m : MethodId} {args : Array Value} {below : List Frame} {meth : Method} {c : Code} {D : va_G} {cy : Nat → ClassId} {ad : Nat → Nat} (X : CX p s m args meth c cX12_known RX12 6 none D shM cy ad (aw shM ad)) {F : Nat} {k181 : St → Option (St)} {q : St} (hk181 : ∀ sg , k181 sg  = some q → GG p l e rm_M_known s m args below meth c (QV D shM cy ad below args s q) D shM cy ad (aw shM ad) 6 181 [(0, .ref (ad 0))] [] sg) : ∀ (n : Nat) (sg : St) (x2 : Int), l_M_known_124  F k181 n sg x2 = some q → GG p l e rm_M_known s m args below meth c (QV D shM cy ad below args s q) D shM cy ad (aw shM ad) 6 124 [(0, .ref (ad 0)), (2, mI x2)] [] sg := by
  intro n
  induction n with
  | zero => intro sg x2 h; cases h
  | succ n ih => exact fun sg x2 h => b_M_known_124_ok X ih hk181 h
set_option maxRecDepth 100000 in
set_option maxHeartbeats 4000000 in
theorem b_M_known_109_ok {p : Program} {l : Launch} {e : Env} {s : State} {m : MethodId} {args : Array Value} {below : List Frame} {meth : Method} {c : Code} {D : va_G} {cy : Nat → ClassId} {ad : Nat → Nat} (X : CX p s m args meth c cX12_known RX12 6 none D shM cy ad (aw shM ad)) {F : Nat} {kc : St → Int → Int → Option (St)} {k122 : St → Option (St)} {q : St} (hkc : ∀ sg x1 x2, kc sg x1 x2 = some q → GG p l e rm_M_known s m args below meth c (QV D shM cy ad below args s q) D shM cy ad (aw shM ad) 6 24 [(0, .ref (ad 0)), (1, mI x1), (2, mI x2)] [] sg) (hk122 : ∀ sg , k122 sg  = some q → GG p l e rm_M_known s m args below meth c (QV D shM cy ad below args s q) D shM cy ad (aw shM ad) 6 122 [(0, .ref (ad 0))] [] sg) {sg : St} {x1 x2 x3 : Int} (hf : b_M_known_109  F kc k122 sg x1 x2 x3 = some q) : GG p l e rm_M_known s m args below meth c (QV D shM cy ad below args s q) D shM cy ad (aw shM ad) 6 109 [(0, .ref (ad 0)), (1, mI x1), (2, mI x2), (3, mI x3)] [] sg := by
  refine r_aload_n X 0 dX12_known_109 rfl rfl ?_
  refine r_getR X fl_12_91 k_M_0_35 dX12_known_110 ?_
  refine r_iload_n X 3 dX12_known_113 rfl rfl ?_
  refine r_iload_n X 2 dX12_known_114 rfl rfl ?_
  obtain ⟨hg1, hf⟩ := gd_some hf
  refine r_iast X a_M_25 hg1 dX12_known_115 ?_
  refine r_iinc (lv2 := [(2, mI (x2 + 1)), (0, .ref (ad 0)), (1, mI x1), (3, mI x3)]) X 2 dX12_known_116 rfl (by decide) rfl ?_
  refine r_goto (tgt := 24) X dX12_known_119 (by decide) ?_
  refine r_perm (lv2 := [(0, .ref (ad 0)), (1, mI x1), (2, mI (x2 + 1))]) [1, 2, 0] rfl ?_
  exact hkc _ _ _ hf
set_option maxRecDepth 100000 in
set_option maxHeartbeats 4000000 in
theorem b_M_known_64_ok {p : Program} {l : Launch} {e : Env} {s : State} {m : MethodId} {args : Array Value} {below : List Frame} {meth : Method} {c : Code} {D : va_G} {cy : Nat → ClassId} {ad : Nat → Nat} (X : CX p s m args meth c cX12_known RX12 6 none D shM cy ad (aw shM ad)) {F : Nat} {kc : St → Int → Int → Option (St)} {k122 : St → Option (St)} {q : St} (hkc : ∀ sg x1 x2, kc sg x1 x2 = some q → GG p l e rm_M_known s m args below meth c (QV D shM cy ad below args s q) D shM cy ad (aw shM ad) 6 24 [(0, .ref (ad 0)), (1, mI x1), (2, mI x2)] [] sg) (hk122 : ∀ sg , k122 sg  = some q → GG p l e rm_M_known s m args below meth c (QV D shM cy ad below args s q) D shM cy ad (aw shM ad) 6 122 [(0, .ref (ad 0))] [] sg) {sg : St} {x1 x2 : Int} (hf : b_M_known_64  F kc k122 sg x1 x2 = some q) : GG p l e rm_M_known s m args below meth c (QV D shM cy ad below args s q) D shM cy ad (aw shM ad) 6 64 [(0, .ref (ad 0)), (1, mI x1), (2, mI x2)] [] sg := by
  refine r_aload_n X 0 dX12_known_64 rfl rfl ?_
  refine r_getR X fl_12_79 k_M_0_31 dX12_known_65 ?_
  refine r_iload_n X 2 dX12_known_68 rfl rfl ?_
  obtain ⟨hg1, hf⟩ := gd_some hf
  refine r_iald X a_M_21 hg1 dX12_known_69 ?_
  refine r_aload_n X 0 dX12_known_70 rfl rfl ?_
  refine r_getR X fl_12_76 k_M_0_30 dX12_known_71 ?_
  refine r_iload_n X 2 dX12_known_74 rfl rfl ?_
  obtain ⟨hg2, hf⟩ := gd_some hf
  refine r_iald X a_M_20 hg2 dX12_known_75 ?_
  obtain ⟨q3, hq3, hf⟩ := bd_some hf
  refine r_callSI X (As := [mI (sg 21 (ix x2)), mI (sg 20 (ix x2))]) (st := []) (as := fun ad => [mI (sg 21 (ix x2)), mI (sg 20 (ix x2))]) (c_M_at hq3) rfl yw_X12_at ys_X12_at ml_RX12_225 ⟨rfl, rfl⟩ ⟨Nat.le_of_ble_eq_true rfl, Nat.le_of_ble_eq_true rfl⟩ rfl rfl (Nat.le_of_ble_eq_true rfl) dX12_known_76 ?_
  refine r_istore_n (lv2 := [(3, mI q3.1), (0, .ref (ad 0)), (1, mI x1), (2, mI x2)]) X dX12_known_79 rfl (by decide) rfl ?_
  refine r_aload_n X 1 dX12_known_80 rfl rfl ?_
  refine r_getR X fl_12_91 k_M_0_35 dX12_known_81 ?_
  refine r_iload_n X 0 dX12_known_84 rfl rfl ?_
  obtain ⟨hg4, hf⟩ := gd_some hf
  refine r_iald X a_M_25 hg4 dX12_known_85 ?_
  refine r_if_lt (tgt := 109) X dX12_known_86 (by decide) (fun hc5 => ?_) (fun hc5 => ?_)
  · have hf := ite_yes hc5 hf
    refine r_perm (lv2 := [(0, .ref (ad 0)), (1, mI x1), (2, mI x2), (3, mI q3.1)]) [1, 2, 3, 0] rfl ?_
    exact b_M_known_109_ok X hkc hk122 hf
  · have hf := ite_no hc5 hf
    refine r_aload_n X 1 dX12_known_89 rfl rfl ?_
    refine r_getR X fl_12_85 k_M_0_33 dX12_known_90 ?_
    refine r_iload_n X 3 dX12_known_93 rfl rfl ?_
    obtain ⟨hg6, hf⟩ := gd_some hf
    refine r_iald X a_M_23 hg6 dX12_known_94 ?_
    refine r_aload_n X 1 dX12_known_95 rfl rfl ?_
    refine r_getR X fl_12_85 k_M_0_33 dX12_known_96 ?_
    refine r_aload_n X 1 dX12_known_99 rfl rfl ?_
    refine r_getR X fl_12_91 k_M_0_35 dX12_known_100 ?_
    refine r_iload_n X 0 dX12_known_103 rfl rfl ?_
    obtain ⟨hg7, hf⟩ := gd_some hf
    refine r_iald X a_M_25 hg7 dX12_known_104 ?_
    obtain ⟨hg8, hf⟩ := gd_some hf
    refine r_iald X a_M_23 hg8 dX12_known_105 ?_
    refine r_icmp_lt (tgt := 116) X dX12_known_106 (by decide) (fun hc9 => ?_) (fun hc9 => ?_)
    · have hf := ite_yes hc9 hf
      refine r_iinc (lv2 := [(2, mI (x2 + 1)), (3, mI q3.1), (0, .ref (ad 0)), (1, mI x1)]) X 3 dX12_known_116 rfl (by decide) rfl ?_
      refine r_goto (tgt := 24) X dX12_known_119 (by decide) ?_
      refine r_perm (lv2 := [(0, .ref (ad 0)), (1, mI x1), (2, mI (x2 + 1))]) [2, 3, 0] rfl ?_
      exact hkc _ _ _ hf
    · have hf := ite_no hc9 hf
      refine r_perm (lv2 := [(0, .ref (ad 0)), (1, mI x1), (2, mI x2), (3, mI q3.1)]) [1, 2, 3, 0] rfl ?_
      exact b_M_known_109_ok X hkc hk122 hf
set_option maxRecDepth 100000 in
set_option maxHeartbeats 4000000 in
theorem b_M_known_24_ok {p : Program} {l : Launch} {e : Env} {s : State} {m : MethodId} {args : Array Value} {below : List Frame} {meth : Method} {c : Code} {D : va_G} {cy : Nat → ClassId} {ad : Nat → Nat} (X : CX p s m args meth c cX12_known RX12 6 none D shM cy ad (aw shM ad)) {F : Nat} {kc : St → Int → Int → Option (St)} {k122 : St → Option (St)} {q : St} (hkc : ∀ sg x1 x2, kc sg x1 x2 = some q → GG p l e rm_M_known s m args below meth c (QV D shM cy ad below args s q) D shM cy ad (aw shM ad) 6 24 [(0, .ref (ad 0)), (1, mI x1), (2, mI x2)] [] sg) (hk122 : ∀ sg , k122 sg  = some q → GG p l e rm_M_known s m args below meth c (QV D shM cy ad below args s q) D shM cy ad (aw shM ad) 6 122 [(0, .ref (ad 0))] [] sg) {sg : St} {x1 x2 : Int} (hf : b_M_known_24  F kc k122 sg x1 x2 = some q) : GG p l e rm_M_known s m args below meth c (QV D shM cy ad below args s q) D shM cy ad (aw shM ad) 6 24 [(0, .ref (ad 0)), (1, mI x1), (2, mI x2)] [] sg := by
  refine r_iload_n X 2 dX12_known_24 rfl rfl ?_
  refine r_aload_n X 0 dX12_known_25 rfl rfl ?_
  refine r_getI X fl_12_256 k_M_0_29 dX12_known_26 ?_
  refine r_icmp_ge (tgt := 122) X dX12_known_29 (by decide) (fun hc1 => ?_) (fun hc1 => ?_)
  · have hf := ite_yes hc1 hf
    refine r_perm (lv2 := [(0, .ref (ad 0))]) [0] rfl ?_
    exact hk122 _ hf
  · have hf := ite_no hc1 hf
    refine r_aload_n X 0 dX12_known_32 rfl rfl ?_
    refine r_getR X fl_12_85 k_M_0_33 dX12_known_33 ?_
    refine r_iload_n X 2 dX12_known_36 rfl rfl ?_
    obtain ⟨hg2, hf⟩ := gd_some hf
    refine r_iald X a_M_23 hg2 dX12_known_37 ?_
    refine r_iload_n X 1 dX12_known_38 rfl rfl ?_
    refine r_icmp_gt (tgt := 116) X dX12_known_39 (by decide) (fun hc3 => ?_) (fun hc3 => ?_)
    · have hf := ite_yes hc3 hf
      refine r_iinc (lv2 := [(2, mI (x2 + 1)), (0, .ref (ad 0)), (1, mI x1)]) X 2 dX12_known_116 rfl (by decide) rfl ?_
      refine r_goto (tgt := 24) X dX12_known_119 (by decide) ?_
      refine r_perm (lv2 := [(0, .ref (ad 0)), (1, mI x1), (2, mI (x2 + 1))]) [1, 2, 0] rfl ?_
      exact hkc _ _ _ hf
    · have hf := ite_no hc3 hf
      refine r_aload_n X 0 dX12_known_42 rfl rfl ?_
      refine r_getR X fl_12_88 k_M_0_34 dX12_known_43 ?_
      refine r_iload_n X 2 dX12_known_46 rfl rfl ?_
      obtain ⟨hg4, hf⟩ := gd_some hf
      refine r_iald X a_M_24 hg4 dX12_known_47 ?_
      refine r_if_lt (tgt := 64) X dX12_known_48 (by decide) (fun hc5 => ?_) (fun hc5 => ?_)
      · have hf := ite_yes hc5 hf
        exact b_M_known_64_ok X hkc hk122 hf
      · have hf := ite_no hc5 hf
        refine r_aload_n X 0 dX12_known_51 rfl rfl ?_
        refine r_getR X fl_12_88 k_M_0_34 dX12_known_52 ?_
        refine r_iload_n X 2 dX12_known_55 rfl rfl ?_
        obtain ⟨hg6, hf⟩ := gd_some hf
        refine r_iald X a_M_24 hg6 dX12_known_56 ?_
        refine r_iload_n X 1 dX12_known_57 rfl rfl ?_
        refine r_icmp_gt (tgt := 64) X dX12_known_58 (by decide) (fun hc7 => ?_) (fun hc7 => ?_)
        · have hf := ite_yes hc7 hf
          exact b_M_known_64_ok X hkc hk122 hf
        · have hf := ite_no hc7 hf
          refine r_goto (tgt := 116) X dX12_known_61 (by decide) ?_
          refine r_iinc (lv2 := [(2, mI (x2 + 1)), (0, .ref (ad 0)), (1, mI x1)]) X 2 dX12_known_116 rfl (by decide) rfl ?_
          refine r_goto (tgt := 24) X dX12_known_119 (by decide) ?_
          refine r_perm (lv2 := [(0, .ref (ad 0)), (1, mI x1), (2, mI (x2 + 1))]) [1, 2, 0] rfl ?_
          exact hkc _ _ _ hf
set_option maxRecDepth 100000 in
set_option maxHeartbeats 4000000 in
theorem l_M_known_24_ok {p : Program} {l : Launch} {e : Env} {s : State} {m : MethodId} {args : Array Value} {below : List Frame} {meth : Method} {c : Code} {D : va_G} {cy : Nat → ClassId} {ad : Nat → Nat} (X : CX p s m args meth c cX12_known RX12 6 none D shM cy ad (aw shM ad)) {F : Nat} {k122 : St → Option (St)} {q : St} (hk122 : ∀ sg , k122 sg  = some q → GG p l e rm_M_known s m args below meth c (QV D shM cy ad below args s q) D shM cy ad (aw shM ad) 6 122 [(0, .ref (ad 0))] [] sg) : ∀ (n : Nat) (sg : St) (x1 x2 : Int), l_M_known_24  F k122 n sg x1 x2 = some q → GG p l e rm_M_known s m args below meth c (QV D shM cy ad below args s q) D shM cy ad (aw shM ad) 6 24 [(0, .ref (ad 0)), (1, mI x1), (2, mI x2)] [] sg := by
  intro n
  induction n with
  | zero => intro sg x1 x2 h; cases h
  | succ n ih => exact fun sg x1 x2 h => b_M_known_24_ok X ih hk122 h
set_option maxRecDepth 100000 in
set_option maxHeartbeats 4000000 in
theorem b_M_known_2_ok {p : Program} {l : Launch} {e : Env} {s : State} {m : MethodId} {args : Array Value} {below : List Frame} {meth : Method} {c : Code} {D : va_G} {cy : Nat → ClassId} {ad : Nat → Nat} (X : CX p s m args meth c cX12_known RX12 6 none D shM cy ad (aw shM ad)) {F : Nat} {kc : St → Int → Int → Option (St)} {k22 : St → Int → Option (St)} {q : St} (hkc : ∀ sg x1 x2, kc sg x1 x2 = some q → GG p l e rm_M_known s m args below meth c (QV D shM cy ad below args s q) D shM cy ad (aw shM ad) 6 2 [(0, .ref (ad 0)), (1, mI x1), (2, mI x2)] [] sg) (hk22 : ∀ sg x1, k22 sg x1 = some q → GG p l e rm_M_known s m args below meth c (QV D shM cy ad below args s q) D shM cy ad (aw shM ad) 6 22 [(0, .ref (ad 0)), (1, mI x1)] [] sg) {sg : St} {x1 x2 : Int} (hf : b_M_known_2  F kc k22 sg x1 x2 = some q) : GG p l e rm_M_known s m args below meth c (QV D shM cy ad below args s q) D shM cy ad (aw shM ad) 6 2 [(0, .ref (ad 0)), (1, mI x1), (2, mI x2)] [] sg := by
  refine r_iload_n X 2 dX12_known_2 rfl rfl ?_
  refine r_sipush X dX12_known_3 (by decide) ?_
  refine r_icmp_ge (tgt := 22) X dX12_known_6 (by decide) (fun hc1 => ?_) (fun hc1 => ?_)
  · have hf := ite_yes hc1 hf
    refine r_perm (lv2 := [(0, .ref (ad 0)), (1, mI x1)]) [0, 1] rfl ?_
    exact hk22 _ _ hf
  · have hf := ite_no hc1 hf
    refine r_aload_n X 0 dX12_known_9 rfl rfl ?_
    refine r_getR X fl_12_91 k_M_0_35 dX12_known_10 ?_
    refine r_iload_n X 2 dX12_known_13 rfl rfl ?_
    refine r_iconst X dX12_known_14 ?_
    obtain ⟨hg2, hf⟩ := gd_some hf
    refine r_iast X a_M_25 hg2 dX12_known_15 ?_
    refine r_iinc (lv2 := [(2, mI (x2 + 1)), (0, .ref (ad 0)), (1, mI x1)]) X 2 dX12_known_16 rfl (by decide) rfl ?_
    refine r_goto (tgt := 2) X dX12_known_19 (by decide) ?_
    refine r_perm (lv2 := [(0, .ref (ad 0)), (1, mI x1), (2, mI (x2 + 1))]) [1, 2, 0] rfl ?_
    exact hkc _ _ _ hf
set_option maxRecDepth 100000 in
set_option maxHeartbeats 4000000 in
theorem l_M_known_2_ok {p : Program} {l : Launch} {e : Env} {s : State} {m : MethodId} {args : Array Value} {below : List Frame} {meth : Method} {c : Code} {D : va_G} {cy : Nat → ClassId} {ad : Nat → Nat} (X : CX p s m args meth c cX12_known RX12 6 none D shM cy ad (aw shM ad)) {F : Nat} {k22 : St → Int → Option (St)} {q : St} (hk22 : ∀ sg x1, k22 sg x1 = some q → GG p l e rm_M_known s m args below meth c (QV D shM cy ad below args s q) D shM cy ad (aw shM ad) 6 22 [(0, .ref (ad 0)), (1, mI x1)] [] sg) : ∀ (n : Nat) (sg : St) (x1 x2 : Int), l_M_known_2  F k22 n sg x1 x2 = some q → GG p l e rm_M_known s m args below meth c (QV D shM cy ad below args s q) D shM cy ad (aw shM ad) 6 2 [(0, .ref (ad 0)), (1, mI x1), (2, mI x2)] [] sg := by
  intro n
  induction n with
  | zero => intro sg x1 x2 h; cases h
  | succ n ih => exact fun sg x1 x2 h => b_M_known_2_ok X ih hk22 h
set_option maxRecDepth 100000 in
set_option maxHeartbeats 4000000 in
theorem c_M_known {l : Launch} {F : Nat} {sg : St} {x1 : Int} {q : St} (hf : f_M_known F  sg x1 = some q) : MV l shM yX12_known cX12_known 6 none rm_M_known (fun ad => [.ref (ad 0), mI x1]) sg q := by
  refine mk_v (by decide) (fun _ => Nat.le_of_ble_eq_true rfl) (fun p e s m args below meth c D cy ad X => ?_)
  have X : CX p s m args meth c cX12_known RX12 6 none D shM cy ad (aw shM ad) := X
  refine r_perm (lv2 := [(0, .ref (ad 0)), (1, mI x1)]) [0, 1] rfl ?_
  refine r_iconst X dX12_known_0 ?_
  refine r_istore_n (lv2 := [(2, mI 0), (0, .ref (ad 0)), (1, mI x1)]) X dX12_known_1 rfl (by decide) rfl ?_
  refine r_perm (lv2 := [(0, .ref (ad 0)), (1, mI x1), (2, mI 0)]) [1, 2, 0] rfl ?_
  refine l_M_known_2_ok X ?_ F _ _ _ hf
  · intro s1 x1_2 hf
    refine r_iconst X dX12_known_22 ?_
    refine r_istore_n (lv2 := [(2, mI 0), (0, .ref (ad 0)), (1, mI x1_2)]) X dX12_known_23 rfl (by decide) rfl ?_
    refine r_perm (lv2 := [(0, .ref (ad 0)), (1, mI x1_2), (2, mI 0)]) [1, 2, 0] rfl ?_
    refine l_M_known_24_ok X ?_ F _ _ _ hf
    · intro s3  hf
      refine r_iconst X dX12_known_122 ?_
      refine r_istore_n (lv2 := [(2, mI 0), (0, .ref (ad 0))]) X dX12_known_123 rfl (by decide) rfl ?_
      refine r_perm (lv2 := [(0, .ref (ad 0)), (2, mI 0)]) [1, 0] rfl ?_
      refine l_M_known_124_ok X ?_ F _ _ hf
      · intro s4  hf
        refine r_iconst X dX12_known_181 ?_
        refine r_istore_n (lv2 := [(2, mI 1), (0, .ref (ad 0))]) X dX12_known_182 rfl (by decide) rfl ?_
        refine r_perm (lv2 := [(0, .ref (ad 0)), (2, mI 1)]) [1, 0] rfl ?_
        refine l_M_known_183_ok X ?_ F _ _ hf
        · intro s5  hf
          exact r_vreturn X hf dX12_known_316
set_option maxRecDepth 100000 in
set_option maxHeartbeats 4000000 in
theorem b_M_countOf_4_ok {p : Program} {l : Launch} {e : Env} {s : State} {m : MethodId} {args : Array Value} {below : List Frame} {meth : Method} {c : Code} {D : va_G} {cy : Nat → ClassId} {ad : Nat → Nat} (X : CX p s m args meth c cX12_countOf RX12 4 (some .int) D shM cy ad (aw shM ad)) {F : Nat} {kc : St → Int → Int → Int → Option (Int × St)} {k39 : St → Int → Option (Int × St)} {q : Int × St} (hkc : ∀ sg x1 x2 x3, kc sg x1 x2 x3 = some q → GG p l e rm_M_countOf s m args below meth c (QI D shM cy ad below args s q) D shM cy ad (aw shM ad) 4 4 [(0, .ref (ad 0)), (1, mI x1), (2, mI x2), (3, mI x3)] [] sg) (hk39 : ∀ sg x2, k39 sg x2 = some q → GG p l e rm_M_countOf s m args below meth c (QI D shM cy ad below args s q) D shM cy ad (aw shM ad) 4 39 [(2, mI x2)] [] sg) {sg : St} {x1 x2 x3 : Int} (hf : b_M_countOf_4  F kc k39 sg x1 x2 x3 = some q) : GG p l e rm_M_countOf s m args below meth c (QI D shM cy ad below args s q) D shM cy ad (aw shM ad) 4 4 [(0, .ref (ad 0)), (1, mI x1), (2, mI x2), (3, mI x3)] [] sg := by
  refine r_iload_n X 3 dX12_countOf_4 rfl rfl ?_
  refine r_aload_n X 0 dX12_countOf_5 rfl rfl ?_
  refine r_getI X fl_12_208 k_M_0_5 dX12_countOf_6 ?_
  refine r_icmp_ge (tgt := 39) X dX12_countOf_9 (by decide) (fun hc1 => ?_) (fun hc1 => ?_)
  · have hf := ite_yes hc1 hf
    refine r_perm (lv2 := [(2, mI x2)]) [2] rfl ?_
    exact hk39 _ _ hf
  · have hf := ite_no hc1 hf
    refine r_iload_n X 2 dX12_countOf_12 rfl rfl ?_
    refine r_aload_n X 0 dX12_countOf_13 rfl rfl ?_
    refine r_getR X fl_12_91 k_M_0_35 dX12_countOf_14 ?_
    refine r_iload_n X 1 dX12_countOf_17 rfl rfl ?_
    refine r_iload_n X 3 dX12_countOf_18 rfl rfl ?_
    obtain ⟨q2, hq2, hf⟩ := bd_some hf
    refine r_callSI X (As := [mI x1, mI x3]) (st := [.ref (ad 25), mI x2]) (as := fun ad => [mI x1, mI x3]) (c_M_at hq2) rfl yw_X12_at ys_X12_at ml_RX12_225 ⟨rfl, rfl⟩ ⟨Nat.le_of_ble_eq_true rfl, Nat.le_of_ble_eq_true rfl⟩ rfl rfl (Nat.le_of_ble_eq_true rfl) dX12_countOf_19 ?_
    obtain ⟨hg3, hf⟩ := gd_some hf
    refine r_iald X a_M_25 hg3 dX12_countOf_22 ?_
    refine r_if_lt (tgt := 30) X dX12_countOf_23 (by decide) (fun hc4 => ?_) (fun hc4 => ?_)
    · have hf := ite_yes hc4 hf
      refine r_iconst X dX12_countOf_30 ?_
      refine r_iadd X dX12_countOf_31 ?_
      refine r_istore_n (lv2 := [(2, mI (x2 + 0)), (0, .ref (ad 0)), (1, mI x1), (3, mI x3)]) X dX12_countOf_32 rfl (by decide) rfl ?_
      refine r_iinc (lv2 := [(3, mI (x3 + 1)), (2, mI (x2 + 0)), (0, .ref (ad 0)), (1, mI x1)]) X 3 dX12_countOf_33 rfl (by decide) rfl ?_
      refine r_goto (tgt := 4) X dX12_countOf_36 (by decide) ?_
      refine r_perm (lv2 := [(0, .ref (ad 0)), (1, mI x1), (2, mI (x2 + 0)), (3, mI (x3 + 1))]) [2, 3, 1, 0] rfl ?_
      exact hkc _ _ _ _ hf
    · have hf := ite_no hc4 hf
      refine r_iconst X dX12_countOf_26 ?_
      refine r_goto (tgt := 31) X dX12_countOf_27 (by decide) ?_
      refine r_iadd X dX12_countOf_31 ?_
      refine r_istore_n (lv2 := [(2, mI (x2 + 1)), (0, .ref (ad 0)), (1, mI x1), (3, mI x3)]) X dX12_countOf_32 rfl (by decide) rfl ?_
      refine r_iinc (lv2 := [(3, mI (x3 + 1)), (2, mI (x2 + 1)), (0, .ref (ad 0)), (1, mI x1)]) X 3 dX12_countOf_33 rfl (by decide) rfl ?_
      refine r_goto (tgt := 4) X dX12_countOf_36 (by decide) ?_
      refine r_perm (lv2 := [(0, .ref (ad 0)), (1, mI x1), (2, mI (x2 + 1)), (3, mI (x3 + 1))]) [2, 3, 1, 0] rfl ?_
      exact hkc _ _ _ _ hf
set_option maxRecDepth 100000 in
set_option maxHeartbeats 4000000 in
theorem l_M_countOf_4_ok {p : Program} {l : Launch} {e : Env} {s : State} {m : MethodId} {args : Array Value} {below : List Frame} {meth : Method} {c : Code} {D : va_G} {cy : Nat → ClassId} {ad : Nat → Nat} (X : CX p s m args meth c cX12_countOf RX12 4 (some .int) D shM cy ad (aw shM ad)) {F : Nat} {k39 : St → Int → Option (Int × St)} {q : Int × St} (hk39 : ∀ sg x2, k39 sg x2 = some q → GG p l e rm_M_countOf s m args below meth c (QI D shM cy ad below args s q) D shM cy ad (aw shM ad) 4 39 [(2, mI x2)] [] sg) : ∀ (n : Nat) (sg : St) (x1 x2 x3 : Int), l_M_countOf_4  F k39 n sg x1 x2 x3 = some q → GG p l e rm_M_countOf s m args below meth c (QI D shM cy ad below args s q) D shM cy ad (aw shM ad) 4 4 [(0, .ref (ad 0)), (1, mI x1), (2, mI x2), (3, mI x3)] [] sg := by
  intro n
  induction n with
  | zero => intro sg x1 x2 x3 h; cases h
  | succ n ih => exact fun sg x1 x2 x3 h => b_M_countOf_4_ok X ih hk39 h
set_option maxRecDepth 100000 in
set_option maxHeartbeats 4000000 in
theorem c_M_countOf {l : Launch} {F : Nat} {sg : St} {x1 : Int} {q : Int × St} (hf : f_M_countOf F  sg x1 = some q) : MI l shM yX12_countOf cX12_countOf 4 (some .int) rm_M_countOf (fun ad => [.ref (ad 0), mI x1]) sg q.2 q.1 := by
  refine mk_i (by decide) (fun _ => Nat.le_of_ble_eq_true rfl) (fun p e s m args below meth c D cy ad X => ?_)
  have X : CX p s m args meth c cX12_countOf RX12 4 (some .int) D shM cy ad (aw shM ad) := X
  refine r_perm (lv2 := [(0, .ref (ad 0)), (1, mI x1)]) [0, 1] rfl ?_
  refine r_iconst X dX12_countOf_0 ?_
  refine r_istore_n (lv2 := [(2, mI 0), (0, .ref (ad 0)), (1, mI x1)]) X dX12_countOf_1 rfl (by decide) rfl ?_
  refine r_iconst X dX12_countOf_2 ?_
  refine r_istore_n (lv2 := [(3, mI 0), (2, mI 0), (0, .ref (ad 0)), (1, mI x1)]) X dX12_countOf_3 rfl (by decide) rfl ?_
  refine r_perm (lv2 := [(0, .ref (ad 0)), (1, mI x1), (2, mI 0), (3, mI 0)]) [2, 3, 1, 0] rfl ?_
  refine l_M_countOf_4_ok X ?_ F _ _ _ _ hf
  · intro s1 x2_2 hf
    refine r_iload_n X 0 dX12_countOf_39 rfl rfl ?_
    exact r_ireturn X hf dX12_countOf_40
set_option maxRecDepth 100000 in
set_option maxHeartbeats 4000000 in
theorem c_M_seen {l : Launch} {F : Nat} {sg : St} {x1 x2 : Int} {q : Int × St} (hf : f_M_seen F  sg x1 x2 = some q) : MI l shM yX12_seen cX12_seen 3 (some .int) rm_M_seen (fun ad => [.ref (ad 0), mI x1, mI x2]) sg q.2 q.1 := by
  refine mk_i (by decide) (fun _ => Nat.le_of_ble_eq_true rfl) (fun p e s m args below meth c D cy ad X => ?_)
  have X : CX p s m args meth c cX12_seen RX12 3 (some .int) D shM cy ad (aw shM ad) := X
  refine r_perm (lv2 := [(0, .ref (ad 0)), (1, mI x1), (2, mI x2)]) [0, 1, 2] rfl ?_
  refine r_aload_n X 0 dX12_seen_0 rfl rfl ?_
  refine r_iconst X dX12_seen_1 ?_
  refine r_putI X fp_12_195 k_M_0_1 rfl rfl dX12_seen_2 ?_
  refine r_aload_n X 0 dX12_seen_5 rfl rfl ?_
  refine r_iconst X dX12_seen_6 ?_
  refine r_putI X fp_12_198 k_M_0_0 rfl rfl dX12_seen_7 ?_
  refine r_aload_n X 0 dX12_seen_10 rfl rfl ?_
  refine r_iload_n X 1 dX12_seen_11 rfl rfl ?_
  obtain ⟨q3, hq3, hf⟩ := bd_some hf
  refine r_callVI X (As := [mI x1]) (st := []) (as := fun ad => [.ref (ad 0), mI x1]) (c_M_isBoard hq3) rfl yw_X12_isBoard yv_X12_isBoard ml_RX12_211 o_M_0 rfl rfl ⟨rfl, rfl⟩ ⟨Nat.le_of_ble_eq_true rfl, Nat.le_of_ble_eq_true rfl⟩ rfl rfl (Nat.le_of_ble_eq_true rfl) dX12_seen_12 ?_
  refine r_if_ne (tgt := 24) X dX12_seen_15 (by decide) (fun hc4 => ?_) (fun hc4 => ?_)
  · have hf := ite_yes hc4 hf
    refine r_aload_n X 0 dX12_seen_18 rfl rfl ?_
    refine r_iconst X dX12_seen_19 ?_
    obtain ⟨q5, hq5, hf⟩ := bd_some hf
    refine r_callVI X (As := [mI 1]) (st := []) (as := fun ad => [.ref (ad 0), mI 1]) (c_M_refuse hq5) rfl yw_X12_refuse yv_X12_refuse ml_RX12_201 o_M_0 rfl rfl ⟨rfl, rfl⟩ ⟨Nat.le_of_ble_eq_true rfl, Nat.le_of_ble_eq_true rfl⟩ rfl rfl (Nat.le_of_ble_eq_true rfl) dX12_seen_20 ?_
    exact r_ireturn X hf dX12_seen_23
  · have hf := ite_no hc4 hf
    refine r_iload_n X 2 dX12_seen_24 rfl rfl ?_
    obtain ⟨q6, hq6, hf⟩ := bd_some hf
    refine r_callSI X (As := [mI x2]) (st := []) (as := fun ad => [mI x2]) (c_M_isDay hq6) rfl yw_X12_isDay ys_X12_isDay ml_RX12_253 ⟨rfl, rfl⟩ ⟨Nat.le_of_ble_eq_true rfl, Nat.le_of_ble_eq_true rfl⟩ rfl rfl (Nat.le_of_ble_eq_true rfl) dX12_seen_25 ?_
    refine r_if_ne (tgt := 37) X dX12_seen_28 (by decide) (fun hc7 => ?_) (fun hc7 => ?_)
    · have hf := ite_yes hc7 hf
      refine r_aload_n X 0 dX12_seen_31 rfl rfl ?_
      refine r_iconst X dX12_seen_32 ?_
      obtain ⟨q8, hq8, hf⟩ := bd_some hf
      refine r_callVI X (As := [mI 2]) (st := []) (as := fun ad => [.ref (ad 0), mI 2]) (c_M_refuse hq8) rfl yw_X12_refuse yv_X12_refuse ml_RX12_201 o_M_0 rfl rfl ⟨rfl, rfl⟩ ⟨Nat.le_of_ble_eq_true rfl, Nat.le_of_ble_eq_true rfl⟩ rfl rfl (Nat.le_of_ble_eq_true rfl) dX12_seen_33 ?_
      exact r_ireturn X hf dX12_seen_36
    · have hf := ite_no hc7 hf
      refine r_aload_n X 0 dX12_seen_37 rfl rfl ?_
      refine r_iload_n X 2 dX12_seen_38 rfl rfl ?_
      obtain ⟨q9, hq9, hf⟩ := bd_some hf
      refine r_callVV X (As := [mI x2]) (st := []) (as := fun ad => [.ref (ad 0), mI x2]) (c_M_known hq9) rfl yw_X12_known yv_X12_known ml_RX12_264 o_M_0 rfl rfl ⟨rfl, rfl⟩ ⟨Nat.le_of_ble_eq_true rfl, Nat.le_of_ble_eq_true rfl⟩ rfl rfl (Nat.le_of_ble_eq_true rfl) dX12_seen_39 ?_
      refine r_aload_n X 0 dX12_seen_42 rfl rfl ?_
      refine r_iload_n X 1 dX12_seen_43 rfl rfl ?_
      obtain ⟨q10, hq10, hf⟩ := bd_some hf
      refine r_callVI X (As := [mI x1]) (st := []) (as := fun ad => [.ref (ad 0), mI x1]) (c_M_countOf hq10) rfl yw_X12_countOf yv_X12_countOf ml_RX12_267 o_M_0 rfl rfl ⟨rfl, rfl⟩ ⟨Nat.le_of_ble_eq_true rfl, Nat.le_of_ble_eq_true rfl⟩ rfl rfl (Nat.le_of_ble_eq_true rfl) dX12_seen_44 ?_
      exact r_ireturn X hf dX12_seen_47
set_option maxRecDepth 100000 in
set_option maxHeartbeats 4000000 in
theorem c_M_heap {l : Launch} {F : Nat} {sg : St} {x1 x2 : Int} {q : Int × St} (hf : f_M_heap F  sg x1 x2 = some q) : MI l shM yX12_heap cX12_heap 3 (some .int) rm_M_heap (fun ad => [.ref (ad 0), mI x1, mI x2]) sg q.2 q.1 := by
  refine mk_i (by decide) (fun _ => Nat.le_of_ble_eq_true rfl) (fun p e s m args below meth c D cy ad X => ?_)
  have X : CX p s m args meth c cX12_heap RX12 3 (some .int) D shM cy ad (aw shM ad) := X
  refine r_perm (lv2 := [(0, .ref (ad 0)), (1, mI x1), (2, mI x2)]) [0, 1, 2] rfl ?_
  refine r_aload_n X 0 dX12_heap_0 rfl rfl ?_
  refine r_iconst X dX12_heap_1 ?_
  refine r_putI X fp_12_195 k_M_0_1 rfl rfl dX12_heap_2 ?_
  refine r_aload_n X 0 dX12_heap_5 rfl rfl ?_
  refine r_iconst X dX12_heap_6 ?_
  refine r_putI X fp_12_198 k_M_0_0 rfl rfl dX12_heap_7 ?_
  refine r_aload_n X 0 dX12_heap_10 rfl rfl ?_
  refine r_iload_n X 1 dX12_heap_11 rfl rfl ?_
  obtain ⟨q3, hq3, hf⟩ := bd_some hf
  refine r_callVI X (As := [mI x1]) (st := []) (as := fun ad => [.ref (ad 0), mI x1]) (c_M_isJudge hq3) rfl yw_X12_isJudge yv_X12_isJudge ml_RX12_219 o_M_0 rfl rfl ⟨rfl, rfl⟩ ⟨Nat.le_of_ble_eq_true rfl, Nat.le_of_ble_eq_true rfl⟩ rfl rfl (Nat.le_of_ble_eq_true rfl) dX12_heap_12 ?_
  refine r_if_ne (tgt := 24) X dX12_heap_15 (by decide) (fun hc4 => ?_) (fun hc4 => ?_)
  · have hf := ite_yes hc4 hf
    refine r_aload_n X 0 dX12_heap_18 rfl rfl ?_
    refine r_iconst X dX12_heap_19 ?_
    obtain ⟨q5, hq5, hf⟩ := bd_some hf
    refine r_callVI X (As := [mI 1]) (st := []) (as := fun ad => [.ref (ad 0), mI 1]) (c_M_refuse hq5) rfl yw_X12_refuse yv_X12_refuse ml_RX12_201 o_M_0 rfl rfl ⟨rfl, rfl⟩ ⟨Nat.le_of_ble_eq_true rfl, Nat.le_of_ble_eq_true rfl⟩ rfl rfl (Nat.le_of_ble_eq_true rfl) dX12_heap_20 ?_
    exact r_ireturn X hf dX12_heap_23
  · have hf := ite_no hc4 hf
    refine r_iload_n X 2 dX12_heap_24 rfl rfl ?_
    obtain ⟨q6, hq6, hf⟩ := bd_some hf
    refine r_callSI X (As := [mI x2]) (st := []) (as := fun ad => [mI x2]) (c_M_isDay hq6) rfl yw_X12_isDay ys_X12_isDay ml_RX12_253 ⟨rfl, rfl⟩ ⟨Nat.le_of_ble_eq_true rfl, Nat.le_of_ble_eq_true rfl⟩ rfl rfl (Nat.le_of_ble_eq_true rfl) dX12_heap_25 ?_
    refine r_if_ne (tgt := 37) X dX12_heap_28 (by decide) (fun hc7 => ?_) (fun hc7 => ?_)
    · have hf := ite_yes hc7 hf
      refine r_aload_n X 0 dX12_heap_31 rfl rfl ?_
      refine r_iconst X dX12_heap_32 ?_
      obtain ⟨q8, hq8, hf⟩ := bd_some hf
      refine r_callVI X (As := [mI 2]) (st := []) (as := fun ad => [.ref (ad 0), mI 2]) (c_M_refuse hq8) rfl yw_X12_refuse yv_X12_refuse ml_RX12_201 o_M_0 rfl rfl ⟨rfl, rfl⟩ ⟨Nat.le_of_ble_eq_true rfl, Nat.le_of_ble_eq_true rfl⟩ rfl rfl (Nat.le_of_ble_eq_true rfl) dX12_heap_33 ?_
      exact r_ireturn X hf dX12_heap_36
    · have hf := ite_no hc7 hf
      refine r_aload_n X 0 dX12_heap_37 rfl rfl ?_
      refine r_iload_n X 2 dX12_heap_38 rfl rfl ?_
      obtain ⟨q9, hq9, hf⟩ := bd_some hf
      refine r_callVV X (As := [mI x2]) (st := []) (as := fun ad => [.ref (ad 0), mI x2]) (c_M_known hq9) rfl yw_X12_known yv_X12_known ml_RX12_264 o_M_0 rfl rfl ⟨rfl, rfl⟩ ⟨Nat.le_of_ble_eq_true rfl, Nat.le_of_ble_eq_true rfl⟩ rfl rfl (Nat.le_of_ble_eq_true rfl) dX12_heap_39 ?_
      refine r_aload_n X 0 dX12_heap_42 rfl rfl ?_
      refine r_getR X fl_12_94 k_M_0_36 dX12_heap_43 ?_
      refine r_iload_n X 1 dX12_heap_46 rfl rfl ?_
      obtain ⟨hg10, hf⟩ := gd_some hf
      refine r_iald X a_M_26 hg10 dX12_heap_47 ?_
      refine r_if_ge (tgt := 60) X dX12_heap_48 (by decide) (fun hc11 => ?_) (fun hc11 => ?_)
      · have hf := ite_yes hc11 hf
        refine r_aload_n X 0 dX12_heap_60 rfl rfl ?_
        refine r_getR X fl_12_94 k_M_0_36 dX12_heap_61 ?_
        refine r_iload_n X 1 dX12_heap_64 rfl rfl ?_
        obtain ⟨hg13, hf⟩ := gd_some hf
        refine r_iald X a_M_26 hg13 dX12_heap_65 ?_
        exact r_ireturn X hf dX12_heap_66
      · have hf := ite_no hc11 hf
        refine r_aload_n X 0 dX12_heap_51 rfl rfl ?_
        refine r_bipush X dX12_heap_52 (by decide) ?_
        obtain ⟨q12, hq12, hf⟩ := bd_some hf
        refine r_callVI X (As := [mI 6]) (st := []) (as := fun ad => [.ref (ad 0), mI 6]) (c_M_refuse hq12) rfl yw_X12_refuse yv_X12_refuse ml_RX12_201 o_M_0 rfl rfl ⟨rfl, rfl⟩ ⟨Nat.le_of_ble_eq_true rfl, Nat.le_of_ble_eq_true rfl⟩ rfl rfl (Nat.le_of_ble_eq_true rfl) dX12_heap_54 ?_
        refine r_goto (tgt := 66) X dX12_heap_57 (by decide) ?_
        exact r_ireturn X hf dX12_heap_66
set_option maxRecDepth 100000 in
set_option maxHeartbeats 4000000 in
theorem b_M_sizeOf_4_ok {p : Program} {l : Launch} {e : Env} {s : State} {m : MethodId} {args : Array Value} {below : List Frame} {meth : Method} {c : Code} {D : va_G} {cy : Nat → ClassId} {ad : Nat → Nat} (X : CX p s m args meth c cX12_sizeOf RX12 4 (some .int) D shM cy ad (aw shM ad)) {F : Nat} {kc : St → Int → Int → Int → Option (Int × St)} {k36 : St → Int → Option (Int × St)} {q : Int × St} (hkc : ∀ sg x1 x2 x3, kc sg x1 x2 x3 = some q → GG p l e rm_M_sizeOf s m args below meth c (QI D shM cy ad below args s q) D shM cy ad (aw shM ad) 4 4 [(0, .ref (ad 0)), (1, mI x1), (2, mI x2), (3, mI x3)] [] sg) (hk36 : ∀ sg x2, k36 sg x2 = some q → GG p l e rm_M_sizeOf s m args below meth c (QI D shM cy ad below args s q) D shM cy ad (aw shM ad) 4 36 [(2, mI x2)] [] sg) {sg : St} {x1 x2 x3 : Int} (hf : b_M_sizeOf_4  F kc k36 sg x1 x2 x3 = some q) : GG p l e rm_M_sizeOf s m args below meth c (QI D shM cy ad below args s q) D shM cy ad (aw shM ad) 4 4 [(0, .ref (ad 0)), (1, mI x1), (2, mI x2), (3, mI x3)] [] sg := by
  refine r_iload_n X 3 dX12_sizeOf_4 rfl rfl ?_
  refine r_aload_n X 0 dX12_sizeOf_5 rfl rfl ?_
  refine r_getI X fl_12_208 k_M_0_5 dX12_sizeOf_6 ?_
  refine r_icmp_ge (tgt := 36) X dX12_sizeOf_9 (by decide) (fun hc1 => ?_) (fun hc1 => ?_)
  · have hf := ite_yes hc1 hf
    refine r_perm (lv2 := [(2, mI x2)]) [2] rfl ?_
    exact hk36 _ _ hf
  · have hf := ite_no hc1 hf
    refine r_iload_n X 2 dX12_sizeOf_12 rfl rfl ?_
    refine r_aload_n X 0 dX12_sizeOf_13 rfl rfl ?_
    refine r_getR X fl_12_94 k_M_0_36 dX12_sizeOf_14 ?_
    refine r_iload_n X 3 dX12_sizeOf_17 rfl rfl ?_
    obtain ⟨hg2, hf⟩ := gd_some hf
    refine r_iald X a_M_26 hg2 dX12_sizeOf_18 ?_
    refine r_iload_n X 1 dX12_sizeOf_19 rfl rfl ?_
    refine r_icmp_ne (tgt := 27) X dX12_sizeOf_20 (by decide) (fun hc3 => ?_) (fun hc3 => ?_)
    · have hf := ite_yes hc3 hf
      refine r_iconst X dX12_sizeOf_23 ?_
      refine r_goto (tgt := 28) X dX12_sizeOf_24 (by decide) ?_
      refine r_iadd X dX12_sizeOf_28 ?_
      refine r_istore_n (lv2 := [(2, mI (x2 + 1)), (0, .ref (ad 0)), (1, mI x1), (3, mI x3)]) X dX12_sizeOf_29 rfl (by decide) rfl ?_
      refine r_iinc (lv2 := [(3, mI (x3 + 1)), (2, mI (x2 + 1)), (0, .ref (ad 0)), (1, mI x1)]) X 3 dX12_sizeOf_30 rfl (by decide) rfl ?_
      refine r_goto (tgt := 4) X dX12_sizeOf_33 (by decide) ?_
      refine r_perm (lv2 := [(0, .ref (ad 0)), (1, mI x1), (2, mI (x2 + 1)), (3, mI (x3 + 1))]) [2, 3, 1, 0] rfl ?_
      exact hkc _ _ _ _ hf
    · have hf := ite_no hc3 hf
      refine r_iconst X dX12_sizeOf_27 ?_
      refine r_iadd X dX12_sizeOf_28 ?_
      refine r_istore_n (lv2 := [(2, mI (x2 + 0)), (0, .ref (ad 0)), (1, mI x1), (3, mI x3)]) X dX12_sizeOf_29 rfl (by decide) rfl ?_
      refine r_iinc (lv2 := [(3, mI (x3 + 1)), (2, mI (x2 + 0)), (0, .ref (ad 0)), (1, mI x1)]) X 3 dX12_sizeOf_30 rfl (by decide) rfl ?_
      refine r_goto (tgt := 4) X dX12_sizeOf_33 (by decide) ?_
      refine r_perm (lv2 := [(0, .ref (ad 0)), (1, mI x1), (2, mI (x2 + 0)), (3, mI (x3 + 1))]) [2, 3, 1, 0] rfl ?_
      exact hkc _ _ _ _ hf
set_option maxRecDepth 100000 in
set_option maxHeartbeats 4000000 in
theorem l_M_sizeOf_4_ok {p : Program} {l : Launch} {e : Env} {s : State} {m : MethodId} {args : Array Value} {below : List Frame} {meth : Method} {c : Code} {D : va_G} {cy : Nat → ClassId} {ad : Nat → Nat} (X : CX p s m args meth c cX12_sizeOf RX12 4 (some .int) D shM cy ad (aw shM ad)) {F : Nat} {k36 : St → Int → Option (Int × St)} {q : Int × St} (hk36 : ∀ sg x2, k36 sg x2 = some q → GG p l e rm_M_sizeOf s m args below meth c (QI D shM cy ad below args s q) D shM cy ad (aw shM ad) 4 36 [(2, mI x2)] [] sg) : ∀ (n : Nat) (sg : St) (x1 x2 x3 : Int), l_M_sizeOf_4  F k36 n sg x1 x2 x3 = some q → GG p l e rm_M_sizeOf s m args below meth c (QI D shM cy ad below args s q) D shM cy ad (aw shM ad) 4 4 [(0, .ref (ad 0)), (1, mI x1), (2, mI x2), (3, mI x3)] [] sg := by
  intro n
  induction n with
  | zero => intro sg x1 x2 x3 h; cases h
  | succ n ih => exact fun sg x1 x2 x3 h => b_M_sizeOf_4_ok X ih hk36 h
set_option maxRecDepth 100000 in
set_option maxHeartbeats 4000000 in
theorem c_M_sizeOf {l : Launch} {F : Nat} {sg : St} {x1 : Int} {q : Int × St} (hf : f_M_sizeOf F  sg x1 = some q) : MI l shM yX12_sizeOf cX12_sizeOf 4 (some .int) rm_M_sizeOf (fun ad => [.ref (ad 0), mI x1]) sg q.2 q.1 := by
  refine mk_i (by decide) (fun _ => Nat.le_of_ble_eq_true rfl) (fun p e s m args below meth c D cy ad X => ?_)
  have X : CX p s m args meth c cX12_sizeOf RX12 4 (some .int) D shM cy ad (aw shM ad) := X
  refine r_perm (lv2 := [(0, .ref (ad 0)), (1, mI x1)]) [0, 1] rfl ?_
  refine r_iconst X dX12_sizeOf_0 ?_
  refine r_istore_n (lv2 := [(2, mI 0), (0, .ref (ad 0)), (1, mI x1)]) X dX12_sizeOf_1 rfl (by decide) rfl ?_
  refine r_iconst X dX12_sizeOf_2 ?_
  refine r_istore_n (lv2 := [(3, mI 0), (2, mI 0), (0, .ref (ad 0)), (1, mI x1)]) X dX12_sizeOf_3 rfl (by decide) rfl ?_
  refine r_perm (lv2 := [(0, .ref (ad 0)), (1, mI x1), (2, mI 0), (3, mI 0)]) [2, 3, 1, 0] rfl ?_
  refine l_M_sizeOf_4_ok X ?_ F _ _ _ _ hf
  · intro s1 x2_2 hf
    refine r_iload_n X 0 dX12_sizeOf_36 rfl rfl ?_
    exact r_ireturn X hf dX12_sizeOf_37
set_option maxRecDepth 100000 in
set_option maxHeartbeats 4000000 in
theorem b_M_square_164_ok {p : Program} {l : Launch} {e : Env} {s : State} {m : MethodId} {args : Array Value} {below : List Frame} {meth : Method} {c : Code} {D : va_G} {cy : Nat → ClassId} {ad : Nat → Nat} (X : CX p s m args meth c cX12_square RX12 13 (some .long) D shM cy ad (aw shM ad)) {F : Nat} {kc : St → Int → Int → Int → Int → Int → Int → Int → Option (Int × St)} {k219 : St → Int → Int → Int → Int → Int → Int → Option (Int × St)} {q : Int × St} (hkc : ∀ sg x1 x2 x3 x5 x6 x10 x12, kc sg x1 x2 x3 x5 x6 x10 x12 = some q → GG p l e rm_M_square s m args below meth c (QL D shM cy ad below args s q) D shM cy ad (aw shM ad) 13 164 [(0, .ref (ad 0)), (1, mI x1), (2, mI x2), (3, mL x3), (5, mI x5), (6, mI x6), (10, mL x10), (12, mI x12)] [] sg) (hk219 : ∀ sg x1 x2 x3 x5 x6 x10, k219 sg x1 x2 x3 x5 x6 x10 = some q → GG p l e rm_M_square s m args below meth c (QL D shM cy ad below args s q) D shM cy ad (aw shM ad) 13 219 [(0, .ref (ad 0)), (1, mI x1), (2, mI x2), (3, mL x3), (5, mI x5), (6, mI x6), (10, mL x10)] [] sg) {sg : St} {x1 x2 x3 x5 x6 x10 x12 : Int} (hf : b_M_square_164  F kc k219 sg x1 x2 x3 x5 x6 x10 x12 = some q) : GG p l e rm_M_square s m args below meth c (QL D shM cy ad below args s q) D shM cy ad (aw shM ad) 13 164 [(0, .ref (ad 0)), (1, mI x1), (2, mI x2), (3, mL x3), (5, mI x5), (6, mI x6), (10, mL x10), (12, mI x12)] [] sg := by
  refine r_iload X 7 dX12_square_164 rfl ?_
  refine r_iload_n X 2 dX12_square_166 rfl rfl ?_
  refine r_icmp_ge (tgt := 219) X dX12_square_167 (by decide) (fun hc1 => ?_) (fun hc1 => ?_)
  · have hf := ite_yes hc1 hf
    refine r_perm (lv2 := [(0, .ref (ad 0)), (1, mI x1), (2, mI x2), (3, mL x3), (5, mI x5), (6, mI x6), (10, mL x10)]) [0, 1, 2, 3, 4, 5, 6] rfl ?_
    exact hk219 _ _ _ _ _ _ _ hf
  · have hf := ite_no hc1 hf
    refine r_lload X 6 dX12_square_170 rfl ?_
    refine r_aload_n X 0 dX12_square_172 rfl rfl ?_
    refine r_getR X fl_12_100 k_M_0_38 dX12_square_173 ?_
    refine r_iload X 7 dX12_square_176 rfl ?_
    obtain ⟨hg2, hf⟩ := gd_some hf
    refine r_iald X a_M_28 hg2 dX12_square_178 ?_
    refine r_iload_n X 1 dX12_square_179 rfl rfl ?_
    refine r_icmp_ne (tgt := 193) X dX12_square_180 (by decide) (fun hc3 => ?_) (fun hc3 => ?_)
    · have hf := ite_yes hc3 hf
      refine r_aload_n X 0 dX12_square_183 rfl rfl ?_
      refine r_getR X fl_12_107 k_M_0_41 dX12_square_184 ?_
      refine r_iload X 7 dX12_square_187 rfl ?_
      obtain ⟨hg4, hf⟩ := gd_some hf
      refine r_lald X a_M_30 hg4 dX12_square_189 ?_
      refine r_goto (tgt := 210) X dX12_square_190 (by decide) ?_
      refine r_lmul X dX12_square_210 ?_
      refine r_lstore (lv2 := [(10, mL (x10 * (sg 30 (ix x12)))), (0, .ref (ad 0)), (1, mI x1), (2, mI x2), (3, mL x3), (5, mI x5), (6, mI x6), (12, mI x12)]) X dX12_square_211 (by decide) rfl ?_
      refine r_iinc (lv2 := [(12, mI (x12 + 1)), (10, mL (x10 * (sg 30 (ix x12)))), (0, .ref (ad 0)), (1, mI x1), (2, mI x2), (3, mL x3), (5, mI x5), (6, mI x6)]) X 7 dX12_square_213 rfl (by decide) rfl ?_
      refine r_goto (tgt := 164) X dX12_square_216 (by decide) ?_
      refine r_perm (lv2 := [(0, .ref (ad 0)), (1, mI x1), (2, mI x2), (3, mL x3), (5, mI x5), (6, mI x6), (10, mL (x10 * (sg 30 (ix x12)))), (12, mI (x12 + 1))]) [2, 3, 4, 5, 6, 7, 1, 0] rfl ?_
      exact hkc _ _ _ _ _ _ _ _ hf
    · have hf := ite_no hc3 hf
      refine r_aload_n X 0 dX12_square_193 rfl rfl ?_
      refine r_getR X fl_12_103 k_M_0_40 dX12_square_194 ?_
      refine r_iconst X dX12_square_197 ?_
      refine r_iload X 7 dX12_square_198 rfl ?_
      refine r_imul X dX12_square_200 ?_
      refine r_aload_n X 0 dX12_square_201 rfl rfl ?_
      refine r_getR X fl_12_100 k_M_0_38 dX12_square_202 ?_
      refine r_iload X 7 dX12_square_205 rfl ?_
      obtain ⟨hg5, hf⟩ := gd_some hf
      refine r_iald X a_M_28 hg5 dX12_square_207 ?_
      refine r_iadd X dX12_square_208 ?_
      obtain ⟨hg6, hf⟩ := gd_some hf
      refine r_lald X a_M_29 hg6 dX12_square_209 ?_
      refine r_lmul X dX12_square_210 ?_
      refine r_lstore (lv2 := [(10, mL (x10 * (sg 29 (ix ((5 * x12) + (sg 28 (ix x12))))))), (0, .ref (ad 0)), (1, mI x1), (2, mI x2), (3, mL x3), (5, mI x5), (6, mI x6), (12, mI x12)]) X dX12_square_211 (by decide) rfl ?_
      refine r_iinc (lv2 := [(12, mI (x12 + 1)), (10, mL (x10 * (sg 29 (ix ((5 * x12) + (sg 28 (ix x12))))))), (0, .ref (ad 0)), (1, mI x1), (2, mI x2), (3, mL x3), (5, mI x5), (6, mI x6)]) X 7 dX12_square_213 rfl (by decide) rfl ?_
      refine r_goto (tgt := 164) X dX12_square_216 (by decide) ?_
      refine r_perm (lv2 := [(0, .ref (ad 0)), (1, mI x1), (2, mI x2), (3, mL x3), (5, mI x5), (6, mI x6), (10, mL (x10 * (sg 29 (ix ((5 * x12) + (sg 28 (ix x12))))))), (12, mI (x12 + 1))]) [2, 3, 4, 5, 6, 7, 1, 0] rfl ?_
      exact hkc _ _ _ _ _ _ _ _ hf
set_option maxRecDepth 100000 in
set_option maxHeartbeats 4000000 in
theorem l_M_square_164_ok {p : Program} {l : Launch} {e : Env} {s : State} {m : MethodId} {args : Array Value} {below : List Frame} {meth : Method} {c : Code} {D : va_G} {cy : Nat → ClassId} {ad : Nat → Nat} (X : CX p s m args meth c cX12_square RX12 13 (some .long) D shM cy ad (aw shM ad)) {F : Nat} {k219 : St → Int → Int → Int → Int → Int → Int → Option (Int × St)} {q : Int × St} (hk219 : ∀ sg x1 x2 x3 x5 x6 x10, k219 sg x1 x2 x3 x5 x6 x10 = some q → GG p l e rm_M_square s m args below meth c (QL D shM cy ad below args s q) D shM cy ad (aw shM ad) 13 219 [(0, .ref (ad 0)), (1, mI x1), (2, mI x2), (3, mL x3), (5, mI x5), (6, mI x6), (10, mL x10)] [] sg) : ∀ (n : Nat) (sg : St) (x1 x2 x3 x5 x6 x10 x12 : Int), l_M_square_164  F k219 n sg x1 x2 x3 x5 x6 x10 x12 = some q → GG p l e rm_M_square s m args below meth c (QL D shM cy ad below args s q) D shM cy ad (aw shM ad) 13 164 [(0, .ref (ad 0)), (1, mI x1), (2, mI x2), (3, mL x3), (5, mI x5), (6, mI x6), (10, mL x10), (12, mI x12)] [] sg := by
  intro n
  induction n with
  | zero => intro sg x1 x2 x3 x5 x6 x10 x12 h; cases h
  | succ n ih => exact fun sg x1 x2 x3 x5 x6 x10 x12 h => b_M_square_164_ok X ih hk219 h
set_option maxRecDepth 100000 in
set_option maxHeartbeats 4000000 in
theorem b_M_square_88_ok {p : Program} {l : Launch} {e : Env} {s : State} {m : MethodId} {args : Array Value} {below : List Frame} {meth : Method} {c : Code} {D : va_G} {cy : Nat → ClassId} {ad : Nat → Nat} (X : CX p s m args meth c cX12_square RX12 13 (some .long) D shM cy ad (aw shM ad)) {F : Nat} {kc : St → Int → Int → Int → Int → Int → Int → Int → Int → Int → Int → Option (Int × St)} {k112 : St → Int → Int → Int → Int → Int → Int → Int → Int → Int → Option (Int × St)} {q : Int × St} (hkc : ∀ sg x1 x2 x3 x5 x6 x7 x8 x9 x10 x11, kc sg x1 x2 x3 x5 x6 x7 x8 x9 x10 x11 = some q → GG p l e rm_M_square s m args below meth c (QL D shM cy ad below args s q) D shM cy ad (aw shM ad) 13 88 [(0, .ref (ad 0)), (1, mI x1), (2, mI x2), (3, mL x3), (5, mI x5), (6, mI x6), (7, mI x7), (8, mI x8), (9, mI x9), (10, mI x10), (11, mI x11)] [] sg) (hk112 : ∀ sg x1 x2 x3 x5 x6 x7 x8 x9 x10, k112 sg x1 x2 x3 x5 x6 x7 x8 x9 x10 = some q → GG p l e rm_M_square s m args below meth c (QL D shM cy ad below args s q) D shM cy ad (aw shM ad) 13 112 [(0, .ref (ad 0)), (1, mI x1), (2, mI x2), (3, mL x3), (5, mI x5), (6, mI x6), (7, mI x7), (8, mI x8), (9, mI x9), (10, mI x10)] [] sg) {sg : St} {x1 x2 x3 x5 x6 x7 x8 x9 x10 x11 : Int} (hf : b_M_square_88  F kc k112 sg x1 x2 x3 x5 x6 x7 x8 x9 x10 x11 = some q) : GG p l e rm_M_square s m args below meth c (QL D shM cy ad below args s q) D shM cy ad (aw shM ad) 13 88 [(0, .ref (ad 0)), (1, mI x1), (2, mI x2), (3, mL x3), (5, mI x5), (6, mI x6), (7, mI x7), (8, mI x8), (9, mI x9), (10, mI x10), (11, mI x11)] [] sg := by
  refine r_iload X 10 dX12_square_88 rfl ?_
  refine r_iload_n X 2 dX12_square_90 rfl rfl ?_
  refine r_icmp_ge (tgt := 112) X dX12_square_91 (by decide) (fun hc1 => ?_) (fun hc1 => ?_)
  · have hf := ite_yes hc1 hf
    refine r_perm (lv2 := [(0, .ref (ad 0)), (1, mI x1), (2, mI x2), (3, mL x3), (5, mI x5), (6, mI x6), (7, mI x7), (8, mI x8), (9, mI x9), (10, mI x10)]) [0, 1, 2, 3, 4, 5, 6, 7, 8, 9] rfl ?_
    exact hk112 _ _ _ _ _ _ _ _ _ _ hf
  · have hf := ite_no hc1 hf
    refine r_iload X 8 dX12_square_94 rfl ?_
    refine r_iload X 7 dX12_square_96 rfl ?_
    refine r_iload X 10 dX12_square_98 rfl ?_
    refine r_ishr X dX12_square_100 ?_
    refine r_iconst X dX12_square_101 ?_
    refine r_iand X dX12_square_102 ?_
    refine r_iadd X dX12_square_103 ?_
    refine r_istore (lv2 := [(9, mI (x9 + (andI (shrI x8 x11) 1))), (0, .ref (ad 0)), (1, mI x1), (2, mI x2), (3, mL x3), (5, mI x5), (6, mI x6), (7, mI x7), (8, mI x8), (10, mI x10), (11, mI x11)]) X dX12_square_104 (by decide) rfl ?_
    refine r_iinc (lv2 := [(11, mI (x11 + 1)), (9, mI (x9 + (andI (shrI x8 x11) 1))), (0, .ref (ad 0)), (1, mI x1), (2, mI x2), (3, mL x3), (5, mI x5), (6, mI x6), (7, mI x7), (8, mI x8), (10, mI x10)]) X 10 dX12_square_106 rfl (by decide) rfl ?_
    refine r_goto (tgt := 88) X dX12_square_109 (by decide) ?_
    refine r_perm (lv2 := [(0, .ref (ad 0)), (1, mI x1), (2, mI x2), (3, mL x3), (5, mI x5), (6, mI x6), (7, mI x7), (8, mI x8), (9, mI (x9 + (andI (shrI x8 x11) 1))), (10, mI x10), (11, mI (x11 + 1))]) [2, 3, 4, 5, 6, 7, 8, 9, 1, 10, 0] rfl ?_
    exact hkc _ _ _ _ _ _ _ _ _ _ _ hf
set_option maxRecDepth 100000 in
set_option maxHeartbeats 4000000 in
theorem l_M_square_88_ok {p : Program} {l : Launch} {e : Env} {s : State} {m : MethodId} {args : Array Value} {below : List Frame} {meth : Method} {c : Code} {D : va_G} {cy : Nat → ClassId} {ad : Nat → Nat} (X : CX p s m args meth c cX12_square RX12 13 (some .long) D shM cy ad (aw shM ad)) {F : Nat} {k112 : St → Int → Int → Int → Int → Int → Int → Int → Int → Int → Option (Int × St)} {q : Int × St} (hk112 : ∀ sg x1 x2 x3 x5 x6 x7 x8 x9 x10, k112 sg x1 x2 x3 x5 x6 x7 x8 x9 x10 = some q → GG p l e rm_M_square s m args below meth c (QL D shM cy ad below args s q) D shM cy ad (aw shM ad) 13 112 [(0, .ref (ad 0)), (1, mI x1), (2, mI x2), (3, mL x3), (5, mI x5), (6, mI x6), (7, mI x7), (8, mI x8), (9, mI x9), (10, mI x10)] [] sg) : ∀ (n : Nat) (sg : St) (x1 x2 x3 x5 x6 x7 x8 x9 x10 x11 : Int), l_M_square_88  F k112 n sg x1 x2 x3 x5 x6 x7 x8 x9 x10 x11 = some q → GG p l e rm_M_square s m args below meth c (QL D shM cy ad below args s q) D shM cy ad (aw shM ad) 13 88 [(0, .ref (ad 0)), (1, mI x1), (2, mI x2), (3, mL x3), (5, mI x5), (6, mI x6), (7, mI x7), (8, mI x8), (9, mI x9), (10, mI x10), (11, mI x11)] [] sg := by
  intro n
  induction n with
  | zero => intro sg x1 x2 x3 x5 x6 x7 x8 x9 x10 x11 h; cases h
  | succ n ih => exact fun sg x1 x2 x3 x5 x6 x7 x8 x9 x10 x11 h => b_M_square_88_ok X ih hk112 h
set_option maxRecDepth 100000 in
set_option maxHeartbeats 4000000 in
theorem b_M_square_54_ok {p : Program} {l : Launch} {e : Env} {s : State} {m : MethodId} {args : Array Value} {below : List Frame} {meth : Method} {c : Code} {D : va_G} {cy : Nat → ClassId} {ad : Nat → Nat} (X : CX p s m args meth c cX12_square RX12 13 (some .long) D shM cy ad (aw shM ad)) {F : Nat} {kc : St → Int → Int → Int → Int → Int → Int → Int → Int → Int → Option (Int × St)} {k132 : St → Int → Int → Int → Int → Int → Int → Int → Option (Int × St)} {q : Int × St} (hkc : ∀ sg x1 x2 x3 x5 x6 x7 x8 x9 x10, kc sg x1 x2 x3 x5 x6 x7 x8 x9 x10 = some q → GG p l e rm_M_square s m args below meth c (QL D shM cy ad below args s q) D shM cy ad (aw shM ad) 13 54 [(0, .ref (ad 0)), (1, mI x1), (2, mI x2), (3, mL x3), (5, mI x5), (6, mI x6), (7, mI x7), (8, mI x8), (9, mI x9), (10, mI x10)] [] sg) (hk132 : ∀ sg x1 x2 x3 x5 x6 x8 x9, k132 sg x1 x2 x3 x5 x6 x8 x9 = some q → GG p l e rm_M_square s m args below meth c (QL D shM cy ad below args s q) D shM cy ad (aw shM ad) 13 132 [(0, .ref (ad 0)), (1, mI x1), (2, mI x2), (3, mL x3), (5, mI x5), (6, mI x6), (8, mI x8), (9, mI x9)] [] sg) {sg : St} {x1 x2 x3 x5 x6 x7 x8 x9 x10 : Int} (hf : b_M_square_54  F kc k132 sg x1 x2 x3 x5 x6 x7 x8 x9 x10 = some q) : GG p l e rm_M_square s m args below meth c (QL D shM cy ad below args s q) D shM cy ad (aw shM ad) 13 54 [(0, .ref (ad 0)), (1, mI x1), (2, mI x2), (3, mL x3), (5, mI x5), (6, mI x6), (7, mI x7), (8, mI x8), (9, mI x9), (10, mI x10)] [] sg := by
  refine r_iload X 9 dX12_square_54 rfl ?_
  refine r_iload_n X 2 dX12_square_56 rfl rfl ?_
  refine r_icmp_ge (tgt := 132) X dX12_square_57 (by decide) (fun hc1 => ?_) (fun hc1 => ?_)
  · have hf := ite_yes hc1 hf
    refine r_perm (lv2 := [(0, .ref (ad 0)), (1, mI x1), (2, mI x2), (3, mL x3), (5, mI x5), (6, mI x6), (8, mI x8), (9, mI x9)]) [0, 1, 2, 3, 4, 5, 7, 8] rfl ?_
    exact hk132 _ _ _ _ _ _ _ _ hf
  · have hf := ite_no hc1 hf
    refine r_aload_n X 0 dX12_square_60 rfl rfl ?_
    refine r_getR X fl_12_100 k_M_0_38 dX12_square_61 ?_
    refine r_iload X 9 dX12_square_64 rfl ?_
    refine r_iload X 6 dX12_square_66 rfl ?_
    refine r_iload_n X 2 dX12_square_68 rfl rfl ?_
    obtain ⟨hg2, hf⟩ := gd_some hf
    refine r_irem X hg2 dX12_square_69 ?_
    obtain ⟨hg3, hf⟩ := gd_some hf
    refine r_iast X a_M_28 hg3 dX12_square_70 ?_
    refine r_iload X 6 dX12_square_71 rfl ?_
    refine r_iload_n X 2 dX12_square_73 rfl rfl ?_
    obtain ⟨hg5, hf⟩ := gd_some hf
    refine r_idiv X hg5 dX12_square_74 ?_
    refine r_istore (lv2 := [(7, mI (divI x7 x2)), (0, .ref (ad 0)), (1, mI x1), (2, mI x2), (3, mL x3), (5, mI x5), (6, mI x6), (8, mI x8), (9, mI x9), (10, mI x10)]) X dX12_square_75 (by decide) rfl ?_
    refine r_aload_n X 1 dX12_square_77 rfl rfl ?_
    refine r_getR X fl_12_100 k_M_0_38 dX12_square_78 ?_
    refine r_iload X 9 dX12_square_81 rfl ?_
    obtain ⟨hg6, hf⟩ := gd_some hf
    refine r_iald X a_M_28 hg6 dX12_square_83 ?_
    refine r_iconst X dX12_square_84 ?_
    refine r_iadd X dX12_square_85 ?_
    refine r_istore (lv2 := [(11, mI (((put sg 28 (ix x10) (remI x7 x2)) 28 (ix x10)) + 1)), (7, mI (divI x7 x2)), (0, .ref (ad 0)), (1, mI x1), (2, mI x2), (3, mL x3), (5, mI x5), (6, mI x6), (8, mI x8), (9, mI x9), (10, mI x10)]) X dX12_square_86 (by decide) rfl ?_
    refine r_perm (lv2 := [(0, .ref (ad 0)), (1, mI x1), (2, mI x2), (3, mL x3), (5, mI x5), (6, mI x6), (7, mI (divI x7 x2)), (8, mI x8), (9, mI x9), (10, mI x10), (11, mI (((put sg 28 (ix x10) (remI x7 x2)) 28 (ix x10)) + 1))]) [2, 3, 4, 5, 6, 7, 1, 8, 9, 10, 0] rfl ?_
    refine l_M_square_88_ok X ?_ F _ _ _ _ _ _ _ _ _ _ _ hf
    · intro s7 x1_8 x2_9 x3_10 x5_11 x6_12 x7_13 x8_14 x9_15 x10_16 hf
      refine r_iload X 7 dX12_square_112 rfl ?_
      refine r_iconst X dX12_square_114 ?_
      refine r_aload_n X 0 dX12_square_115 rfl rfl ?_
      refine r_getR X fl_12_100 k_M_0_38 dX12_square_116 ?_
      refine r_iload X 9 dX12_square_119 rfl ?_
      obtain ⟨hg17, hf⟩ := gd_some hf
      refine r_iald X a_M_28 hg17 dX12_square_121 ?_
      refine r_ishl X dX12_square_122 ?_
      refine r_ior X dX12_square_123 ?_
      refine r_istore (lv2 := [(8, mI (orI x8_14 (shlI 1 (s7 28 (ix x10_16))))), (0, .ref (ad 0)), (1, mI x1_8), (2, mI x2_9), (3, mL x3_10), (5, mI x5_11), (6, mI x6_12), (7, mI x7_13), (9, mI x9_15), (10, mI x10_16)]) X dX12_square_124 (by decide) rfl ?_
      refine r_iinc (lv2 := [(10, mI (x10_16 + 1)), (8, mI (orI x8_14 (shlI 1 (s7 28 (ix x10_16))))), (0, .ref (ad 0)), (1, mI x1_8), (2, mI x2_9), (3, mL x3_10), (5, mI x5_11), (6, mI x6_12), (7, mI x7_13), (9, mI x9_15)]) X 9 dX12_square_126 rfl (by decide) rfl ?_
      refine r_goto (tgt := 54) X dX12_square_129 (by decide) ?_
      refine r_perm (lv2 := [(0, .ref (ad 0)), (1, mI x1_8), (2, mI x2_9), (3, mL x3_10), (5, mI x5_11), (6, mI x6_12), (7, mI x7_13), (8, mI (orI x8_14 (shlI 1 (s7 28 (ix x10_16))))), (9, mI x9_15), (10, mI (x10_16 + 1))]) [2, 3, 4, 5, 6, 7, 8, 1, 9, 0] rfl ?_
      exact hkc _ _ _ _ _ _ _ _ _ _ hf
set_option maxRecDepth 100000 in
set_option maxHeartbeats 4000000 in
theorem l_M_square_54_ok {p : Program} {l : Launch} {e : Env} {s : State} {m : MethodId} {args : Array Value} {below : List Frame} {meth : Method} {c : Code} {D : va_G} {cy : Nat → ClassId} {ad : Nat → Nat} (X : CX p s m args meth c cX12_square RX12 13 (some .long) D shM cy ad (aw shM ad)) {F : Nat} {k132 : St → Int → Int → Int → Int → Int → Int → Int → Option (Int × St)} {q : Int × St} (hk132 : ∀ sg x1 x2 x3 x5 x6 x8 x9, k132 sg x1 x2 x3 x5 x6 x8 x9 = some q → GG p l e rm_M_square s m args below meth c (QL D shM cy ad below args s q) D shM cy ad (aw shM ad) 13 132 [(0, .ref (ad 0)), (1, mI x1), (2, mI x2), (3, mL x3), (5, mI x5), (6, mI x6), (8, mI x8), (9, mI x9)] [] sg) : ∀ (n : Nat) (sg : St) (x1 x2 x3 x5 x6 x7 x8 x9 x10 : Int), l_M_square_54  F k132 n sg x1 x2 x3 x5 x6 x7 x8 x9 x10 = some q → GG p l e rm_M_square s m args below meth c (QL D shM cy ad below args s q) D shM cy ad (aw shM ad) 13 54 [(0, .ref (ad 0)), (1, mI x1), (2, mI x2), (3, mL x3), (5, mI x5), (6, mI x6), (7, mI x7), (8, mI x8), (9, mI x9), (10, mI x10)] [] sg := by
  intro n
  induction n with
  | zero => intro sg x1 x2 x3 x5 x6 x7 x8 x9 x10 h; cases h
  | succ n ih => exact fun sg x1 x2 x3 x5 x6 x7 x8 x9 x10 h => b_M_square_54_ok X ih hk132 h
set_option maxRecDepth 100000 in
set_option maxHeartbeats 4000000 in
theorem b_M_square_34_ok {p : Program} {l : Launch} {e : Env} {s : State} {m : MethodId} {args : Array Value} {below : List Frame} {meth : Method} {c : Code} {D : va_G} {cy : Nat → ClassId} {ad : Nat → Nat} (X : CX p s m args meth c cX12_square RX12 13 (some .long) D shM cy ad (aw shM ad)) {F : Nat} {kc : St → Int → Int → Int → Int → Int → Option (Int × St)} {k230 : St → Int → Option (Int × St)} {q : Int × St} (hkc : ∀ sg x1 x2 x3 x5 x6, kc sg x1 x2 x3 x5 x6 = some q → GG p l e rm_M_square s m args below meth c (QL D shM cy ad below args s q) D shM cy ad (aw shM ad) 13 34 [(0, .ref (ad 0)), (1, mI x1), (2, mI x2), (3, mL x3), (5, mI x5), (6, mI x6)] [] sg) (hk230 : ∀ sg x3, k230 sg x3 = some q → GG p l e rm_M_square s m args below meth c (QL D shM cy ad below args s q) D shM cy ad (aw shM ad) 13 230 [(3, mL x3)] [] sg) {sg : St} {x1 x2 x3 x5 x6 : Int} (hf : b_M_square_34  F kc k230 sg x1 x2 x3 x5 x6 = some q) : GG p l e rm_M_square s m args below meth c (QL D shM cy ad below args s q) D shM cy ad (aw shM ad) 13 34 [(0, .ref (ad 0)), (1, mI x1), (2, mI x2), (3, mL x3), (5, mI x5), (6, mI x6)] [] sg := by
  refine r_iload X 5 dX12_square_34 rfl ?_
  refine r_iload X 4 dX12_square_36 rfl ?_
  refine r_icmp_ge (tgt := 230) X dX12_square_38 (by decide) (fun hc1 => ?_) (fun hc1 => ?_)
  · have hf := ite_yes hc1 hf
    refine r_perm (lv2 := [(3, mL x3)]) [3] rfl ?_
    exact hk230 _ _ hf
  · have hf := ite_no hc1 hf
    refine r_iload X 5 dX12_square_41 rfl ?_
    refine r_istore (lv2 := [(7, mI x6), (0, .ref (ad 0)), (1, mI x1), (2, mI x2), (3, mL x3), (5, mI x5), (6, mI x6)]) X dX12_square_43 (by decide) rfl ?_
    refine r_iconst X dX12_square_45 ?_
    refine r_istore (lv2 := [(8, mI 0), (7, mI x6), (0, .ref (ad 0)), (1, mI x1), (2, mI x2), (3, mL x3), (5, mI x5), (6, mI x6)]) X dX12_square_46 (by decide) rfl ?_
    refine r_iconst X dX12_square_48 ?_
    refine r_istore (lv2 := [(9, mI 0), (8, mI 0), (7, mI x6), (0, .ref (ad 0)), (1, mI x1), (2, mI x2), (3, mL x3), (5, mI x5), (6, mI x6)]) X dX12_square_49 (by decide) rfl ?_
    refine r_iconst X dX12_square_51 ?_
    refine r_istore (lv2 := [(10, mI 0), (9, mI 0), (8, mI 0), (7, mI x6), (0, .ref (ad 0)), (1, mI x1), (2, mI x2), (3, mL x3), (5, mI x5), (6, mI x6)]) X dX12_square_52 (by decide) rfl ?_
    refine r_perm (lv2 := [(0, .ref (ad 0)), (1, mI x1), (2, mI x2), (3, mL x3), (5, mI x5), (6, mI x6), (7, mI x6), (8, mI 0), (9, mI 0), (10, mI 0)]) [4, 5, 6, 7, 8, 9, 3, 2, 1, 0] rfl ?_
    refine l_M_square_54_ok X ?_ F _ _ _ _ _ _ _ _ _ _ hf
    · intro s2 x1_3 x2_4 x3_5 x5_6 x6_7 x8_8 x9_9 hf
      refine r_iload X 6 dX12_square_132 rfl ?_
      refine r_iconst X dX12_square_134 ?_
      refine r_iload_n X 2 dX12_square_135 rfl rfl ?_
      refine r_ishl X dX12_square_136 ?_
      refine r_iconst X dX12_square_137 ?_
      refine r_isub X dX12_square_138 ?_
      refine r_icmp_eq (tgt := 145) X dX12_square_139 (by decide) (fun hc10 => ?_) (fun hc10 => ?_)
      · have hf := ite_yes hc10 hf
        refine r_iload X 7 dX12_square_145 rfl ?_
        refine r_iconst X dX12_square_147 ?_
        obtain ⟨hg11, hf⟩ := gd_some hf
        refine r_irem X hg11 dX12_square_148 ?_
        refine r_if_ne (tgt := 156) X dX12_square_149 (by decide) (fun hc12 => ?_) (fun hc12 => ?_)
        · have hf := ite_yes hc12 hf
          refine r_lconst (v := 1) X dX12_square_152 (by decide) ?_
          refine r_goto (tgt := 159) X dX12_square_153 (by decide) ?_
          refine r_lstore (lv2 := [(10, mL 1), (0, .ref (ad 0)), (1, mI x1_3), (2, mI x2_4), (3, mL x3_5), (5, mI x5_6), (6, mI x6_7), (8, mI x8_8), (9, mI x9_9)]) X dX12_square_159 (by decide) rfl ?_
          refine r_iconst X dX12_square_161 ?_
          refine r_istore (lv2 := [(12, mI 0), (10, mL 1), (0, .ref (ad 0)), (1, mI x1_3), (2, mI x2_4), (3, mL x3_5), (5, mI x5_6), (6, mI x6_7), (8, mI x8_8), (9, mI x9_9)]) X dX12_square_162 (by decide) rfl ?_
          refine r_perm (lv2 := [(0, .ref (ad 0)), (1, mI x1_3), (2, mI x2_4), (3, mL x3_5), (5, mI x5_6), (6, mI x6_7), (10, mL 1), (12, mI 0)]) [2, 3, 4, 5, 6, 7, 1, 0] rfl ?_
          refine l_M_square_164_ok X ?_ F _ _ _ _ _ _ _ _ hf
          · intro s13 x1_14 x2_15 x3_16 x5_17 x6_18 x10_19 hf
            refine r_lload_n X 3 dX12_square_219 rfl rfl ?_
            refine r_lload X 6 dX12_square_220 rfl ?_
            refine r_ladd X dX12_square_222 ?_
            refine r_lstore_n (lv2 := [(3, mL (x3_16 + x10_19)), (0, .ref (ad 0)), (1, mI x1_14), (2, mI x2_15), (5, mI x5_17), (6, mI x6_18), (10, mL x10_19)]) X dX12_square_223 rfl (by decide) rfl ?_
            refine r_iinc (lv2 := [(6, mI (x6_18 + 1)), (3, mL (x3_16 + x10_19)), (0, .ref (ad 0)), (1, mI x1_14), (2, mI x2_15), (5, mI x5_17), (10, mL x10_19)]) X 5 dX12_square_224 rfl (by decide) rfl ?_
            refine r_goto (tgt := 34) X dX12_square_227 (by decide) ?_
            refine r_perm (lv2 := [(0, .ref (ad 0)), (1, mI x1_14), (2, mI x2_15), (3, mL (x3_16 + x10_19)), (5, mI x5_17), (6, mI (x6_18 + 1))]) [2, 3, 4, 1, 5, 0] rfl ?_
            exact hkc _ _ _ _ _ _ hf
        · have hf := ite_no hc12 hf
          refine r_ldc2 X cst_RX12_273 dX12_square_156 ?_
          refine r_lstore (lv2 := [(10, mL (-1)), (0, .ref (ad 0)), (1, mI x1_3), (2, mI x2_4), (3, mL x3_5), (5, mI x5_6), (6, mI x6_7), (8, mI x8_8), (9, mI x9_9)]) X dX12_square_159 (by decide) rfl ?_
          refine r_iconst X dX12_square_161 ?_
          refine r_istore (lv2 := [(12, mI 0), (10, mL (-1)), (0, .ref (ad 0)), (1, mI x1_3), (2, mI x2_4), (3, mL x3_5), (5, mI x5_6), (6, mI x6_7), (8, mI x8_8), (9, mI x9_9)]) X dX12_square_162 (by decide) rfl ?_
          refine r_perm (lv2 := [(0, .ref (ad 0)), (1, mI x1_3), (2, mI x2_4), (3, mL x3_5), (5, mI x5_6), (6, mI x6_7), (10, mL (-1)), (12, mI 0)]) [2, 3, 4, 5, 6, 7, 1, 0] rfl ?_
          refine l_M_square_164_ok X ?_ F _ _ _ _ _ _ _ _ hf
          · intro s20 x1_21 x2_22 x3_23 x5_24 x6_25 x10_26 hf
            refine r_lload_n X 3 dX12_square_219 rfl rfl ?_
            refine r_lload X 6 dX12_square_220 rfl ?_
            refine r_ladd X dX12_square_222 ?_
            refine r_lstore_n (lv2 := [(3, mL (x3_23 + x10_26)), (0, .ref (ad 0)), (1, mI x1_21), (2, mI x2_22), (5, mI x5_24), (6, mI x6_25), (10, mL x10_26)]) X dX12_square_223 rfl (by decide) rfl ?_
            refine r_iinc (lv2 := [(6, mI (x6_25 + 1)), (3, mL (x3_23 + x10_26)), (0, .ref (ad 0)), (1, mI x1_21), (2, mI x2_22), (5, mI x5_24), (10, mL x10_26)]) X 5 dX12_square_224 rfl (by decide) rfl ?_
            refine r_goto (tgt := 34) X dX12_square_227 (by decide) ?_
            refine r_perm (lv2 := [(0, .ref (ad 0)), (1, mI x1_21), (2, mI x2_22), (3, mL (x3_23 + x10_26)), (5, mI x5_24), (6, mI (x6_25 + 1))]) [2, 3, 4, 1, 5, 0] rfl ?_
            exact hkc _ _ _ _ _ _ hf
      · have hf := ite_no hc10 hf
        refine r_goto (tgt := 224) X dX12_square_142 (by decide) ?_
        refine r_iinc (lv2 := [(6, mI (x6_7 + 1)), (0, .ref (ad 0)), (1, mI x1_3), (2, mI x2_4), (3, mL x3_5), (5, mI x5_6), (8, mI x8_8), (9, mI x9_9)]) X 5 dX12_square_224 rfl (by decide) rfl ?_
        refine r_goto (tgt := 34) X dX12_square_227 (by decide) ?_
        refine r_perm (lv2 := [(0, .ref (ad 0)), (1, mI x1_3), (2, mI x2_4), (3, mL x3_5), (5, mI x5_6), (6, mI (x6_7 + 1))]) [1, 2, 3, 4, 5, 0] rfl ?_
        exact hkc _ _ _ _ _ _ hf
set_option maxRecDepth 100000 in
set_option maxHeartbeats 4000000 in
theorem l_M_square_34_ok {p : Program} {l : Launch} {e : Env} {s : State} {m : MethodId} {args : Array Value} {below : List Frame} {meth : Method} {c : Code} {D : va_G} {cy : Nat → ClassId} {ad : Nat → Nat} (X : CX p s m args meth c cX12_square RX12 13 (some .long) D shM cy ad (aw shM ad)) {F : Nat} {k230 : St → Int → Option (Int × St)} {q : Int × St} (hk230 : ∀ sg x3, k230 sg x3 = some q → GG p l e rm_M_square s m args below meth c (QL D shM cy ad below args s q) D shM cy ad (aw shM ad) 13 230 [(3, mL x3)] [] sg) : ∀ (n : Nat) (sg : St) (x1 x2 x3 x5 x6 : Int), l_M_square_34  F k230 n sg x1 x2 x3 x5 x6 = some q → GG p l e rm_M_square s m args below meth c (QL D shM cy ad below args s q) D shM cy ad (aw shM ad) 13 34 [(0, .ref (ad 0)), (1, mI x1), (2, mI x2), (3, mL x3), (5, mI x5), (6, mI x6)] [] sg := by
  intro n
  induction n with
  | zero => intro sg x1 x2 x3 x5 x6 h; cases h
  | succ n ih => exact fun sg x1 x2 x3 x5 x6 h => b_M_square_34_ok X ih hk230 h
set_option maxRecDepth 100000 in
set_option maxHeartbeats 4000000 in
theorem b_M_square_13_ok {p : Program} {l : Launch} {e : Env} {s : State} {m : MethodId} {args : Array Value} {below : List Frame} {meth : Method} {c : Code} {D : va_G} {cy : Nat → ClassId} {ad : Nat → Nat} (X : CX p s m args meth c cX12_square RX12 13 (some .long) D shM cy ad (aw shM ad)) {F : Nat} {kc : St → Int → Int → Int → Int → Int → Option (Int × St)} {k31 : St → Int → Int → Int → Int → Option (Int × St)} {q : Int × St} (hkc : ∀ sg x1 x2 x3 x5 x6, kc sg x1 x2 x3 x5 x6 = some q → GG p l e rm_M_square s m args below meth c (QL D shM cy ad below args s q) D shM cy ad (aw shM ad) 13 13 [(0, .ref (ad 0)), (1, mI x1), (2, mI x2), (3, mL x3), (5, mI x5), (6, mI x6)] [] sg) (hk31 : ∀ sg x1 x2 x3 x5, k31 sg x1 x2 x3 x5 = some q → GG p l e rm_M_square s m args below meth c (QL D shM cy ad below args s q) D shM cy ad (aw shM ad) 13 31 [(0, .ref (ad 0)), (1, mI x1), (2, mI x2), (3, mL x3), (5, mI x5)] [] sg) {sg : St} {x1 x2 x3 x5 x6 : Int} (hf : b_M_square_13  F kc k31 sg x1 x2 x3 x5 x6 = some q) : GG p l e rm_M_square s m args below meth c (QL D shM cy ad below args s q) D shM cy ad (aw shM ad) 13 13 [(0, .ref (ad 0)), (1, mI x1), (2, mI x2), (3, mL x3), (5, mI x5), (6, mI x6)] [] sg := by
  refine r_iload X 5 dX12_square_13 rfl ?_
  refine r_iload_n X 2 dX12_square_15 rfl rfl ?_
  refine r_icmp_ge (tgt := 31) X dX12_square_16 (by decide) (fun hc1 => ?_) (fun hc1 => ?_)
  · have hf := ite_yes hc1 hf
    refine r_perm (lv2 := [(0, .ref (ad 0)), (1, mI x1), (2, mI x2), (3, mL x3), (5, mI x5)]) [0, 1, 2, 3, 4] rfl ?_
    exact hk31 _ _ _ _ _ hf
  · have hf := ite_no hc1 hf
    refine r_iload X 4 dX12_square_19 rfl ?_
    refine r_iload_n X 2 dX12_square_21 rfl rfl ?_
    refine r_imul X dX12_square_22 ?_
    refine r_istore (lv2 := [(5, mI (x5 * x2)), (0, .ref (ad 0)), (1, mI x1), (2, mI x2), (3, mL x3), (6, mI x6)]) X dX12_square_23 (by decide) rfl ?_
    refine r_iinc (lv2 := [(6, mI (x6 + 1)), (5, mI (x5 * x2)), (0, .ref (ad 0)), (1, mI x1), (2, mI x2), (3, mL x3)]) X 5 dX12_square_25 rfl (by decide) rfl ?_
    refine r_goto (tgt := 13) X dX12_square_28 (by decide) ?_
    refine r_perm (lv2 := [(0, .ref (ad 0)), (1, mI x1), (2, mI x2), (3, mL x3), (5, mI (x5 * x2)), (6, mI (x6 + 1))]) [2, 3, 4, 5, 1, 0] rfl ?_
    exact hkc _ _ _ _ _ _ hf
set_option maxRecDepth 100000 in
set_option maxHeartbeats 4000000 in
theorem l_M_square_13_ok {p : Program} {l : Launch} {e : Env} {s : State} {m : MethodId} {args : Array Value} {below : List Frame} {meth : Method} {c : Code} {D : va_G} {cy : Nat → ClassId} {ad : Nat → Nat} (X : CX p s m args meth c cX12_square RX12 13 (some .long) D shM cy ad (aw shM ad)) {F : Nat} {k31 : St → Int → Int → Int → Int → Option (Int × St)} {q : Int × St} (hk31 : ∀ sg x1 x2 x3 x5, k31 sg x1 x2 x3 x5 = some q → GG p l e rm_M_square s m args below meth c (QL D shM cy ad below args s q) D shM cy ad (aw shM ad) 13 31 [(0, .ref (ad 0)), (1, mI x1), (2, mI x2), (3, mL x3), (5, mI x5)] [] sg) : ∀ (n : Nat) (sg : St) (x1 x2 x3 x5 x6 : Int), l_M_square_13  F k31 n sg x1 x2 x3 x5 x6 = some q → GG p l e rm_M_square s m args below meth c (QL D shM cy ad below args s q) D shM cy ad (aw shM ad) 13 13 [(0, .ref (ad 0)), (1, mI x1), (2, mI x2), (3, mL x3), (5, mI x5), (6, mI x6)] [] sg := by
  intro n
  induction n with
  | zero => intro sg x1 x2 x3 x5 x6 h; cases h
  | succ n ih => exact fun sg x1 x2 x3 x5 x6 h => b_M_square_13_ok X ih hk31 h
set_option maxRecDepth 100000 in
set_option maxHeartbeats 4000000 in
theorem c_M_square {l : Launch} {F : Nat} {sg : St} {x1 : Int} {q : Int × St} (hf : f_M_square F  sg x1 = some q) : ML l shM yX12_square cX12_square 13 (some .long) rm_M_square (fun ad => [.ref (ad 0), mI x1]) sg q.2 q.1 := by
  refine mk_l (by decide) (fun _ => Nat.le_of_ble_eq_true rfl) (fun p e s m args below meth c D cy ad X => ?_)
  have X : CX p s m args meth c cX12_square RX12 13 (some .long) D shM cy ad (aw shM ad) := X
  refine r_perm (lv2 := [(0, .ref (ad 0)), (1, mI x1)]) [0, 1] rfl ?_
  refine r_aload_n X 0 dX12_square_0 rfl rfl ?_
  refine r_getI X fl_12_270 k_M_0_39 dX12_square_1 ?_
  refine r_istore_n (lv2 := [(2, mI (sg 0 39)), (0, .ref (ad 0)), (1, mI x1)]) X dX12_square_4 rfl (by decide) rfl ?_
  refine r_lconst (v := 0) X dX12_square_5 (by decide) ?_
  refine r_lstore_n (lv2 := [(3, mL 0), (2, mI (sg 0 39)), (0, .ref (ad 0)), (1, mI x1)]) X dX12_square_6 rfl (by decide) rfl ?_
  refine r_iconst X dX12_square_7 ?_
  refine r_istore (lv2 := [(5, mI 1), (3, mL 0), (2, mI (sg 0 39)), (0, .ref (ad 0)), (1, mI x1)]) X dX12_square_8 (by decide) rfl ?_
  refine r_iconst X dX12_square_10 ?_
  refine r_istore (lv2 := [(6, mI 0), (5, mI 1), (3, mL 0), (2, mI (sg 0 39)), (0, .ref (ad 0)), (1, mI x1)]) X dX12_square_11 (by decide) rfl ?_
  refine r_perm (lv2 := [(0, .ref (ad 0)), (1, mI x1), (2, mI (sg 0 39)), (3, mL 0), (5, mI 1), (6, mI 0)]) [4, 5, 3, 2, 1, 0] rfl ?_
  refine l_M_square_13_ok X ?_ F _ _ _ _ _ _ hf
  · intro s1 x1_2 x2_3 x3_4 x5_5 hf
    refine r_iconst X dX12_square_31 ?_
    refine r_istore (lv2 := [(6, mI 0), (0, .ref (ad 0)), (1, mI x1_2), (2, mI x2_3), (3, mL x3_4), (5, mI x5_5)]) X dX12_square_32 (by decide) rfl ?_
    refine r_perm (lv2 := [(0, .ref (ad 0)), (1, mI x1_2), (2, mI x2_3), (3, mL x3_4), (5, mI x5_5), (6, mI 0)]) [1, 2, 3, 4, 5, 0] rfl ?_
    refine l_M_square_34_ok X ?_ F _ _ _ _ _ _ hf
    · intro s6 x3_7 hf
      refine r_lload_n X 0 dX12_square_230 rfl rfl ?_
      exact r_lreturn X hf dX12_square_231
