set_option maxRecDepth 100000 in
set_option maxHeartbeats 4000000 in
theorem c_Read_wishInHand {l : Launch} {F : Nat} {sg : St} {q : Int × St} (hf : f_Read_wishInHand F  sg  = some q) : MI l shX yX10_wishInHand cX10_wishInHand 1 (some .int) rm_Read_wishInHand (fun ad => [.ref (ad 41)]) sg q.2 q.1 := by
  refine mk_i (by decide) (fun _ => Nat.le_of_ble_eq_true rfl) (fun p e s m args below meth c D cy ad X => ?_)
  have X : CX p s m args meth c cX10_wishInHand RX10 1 (some .int) D shX cy ad (aw shX ad) := X
  refine r_perm (lv2 := [(0, .ref (ad 41))]) [0] rfl ?_
  refine r_aload_n X 0 dX10_wishInHand_0 rfl rfl ?_
  refine r_ldcS X 1 (by decide) rfl dX10_wishInHand_1 ?_
  obtain ⟨q1, hq1, hf⟩ := bd_some hf
  refine r_callVI X (As := [.ref (ad 1001)]) (st := []) (as := fun ad => [.ref (ad 41), .ref (ad 1001)]) (c_Read_isWord (by decide) hq1) rfl yw_X10_isWord yv_X10_isWord ml_RX10_54 o_X_41 rfl rfl ⟨rfl, rfl⟩ ⟨Nat.le_of_ble_eq_true rfl, Nat.le_of_ble_eq_true rfl⟩ rfl rfl (Nat.le_of_ble_eq_true rfl) dX10_wishInHand_3 ?_
  refine r_if_eq (tgt := 11) X dX10_wishInHand_6 (by decide) (fun hc2 => ?_) (fun hc2 => ?_)
  · have hf := ite_yes hc2 hf
    refine r_aload_n X 0 dX10_wishInHand_11 rfl rfl ?_
    refine r_ldcS X 2 (by decide) rfl dX10_wishInHand_12 ?_
    obtain ⟨q3, hq3, hf⟩ := bd_some hf
    refine r_callVI X (As := [.ref (ad 1002)]) (st := []) (as := fun ad => [.ref (ad 41), .ref (ad 1002)]) (c_Read_isWord (by decide) hq3) rfl yw_X10_isWord yv_X10_isWord ml_RX10_54 o_X_41 rfl rfl ⟨rfl, rfl⟩ ⟨Nat.le_of_ble_eq_true rfl, Nat.le_of_ble_eq_true rfl⟩ rfl rfl (Nat.le_of_ble_eq_true rfl) dX10_wishInHand_14 ?_
    refine r_if_eq (tgt := 22) X dX10_wishInHand_17 (by decide) (fun hc4 => ?_) (fun hc4 => ?_)
    · have hf := ite_yes hc4 hf
      refine r_aload_n X 0 dX10_wishInHand_22 rfl rfl ?_
      refine r_ldcS X 3 (by decide) rfl dX10_wishInHand_23 ?_
      obtain ⟨q5, hq5, hf⟩ := bd_some hf
      refine r_callVI X (As := [.ref (ad 1003)]) (st := []) (as := fun ad => [.ref (ad 41), .ref (ad 1003)]) (c_Read_isWord (by decide) hq5) rfl yw_X10_isWord yv_X10_isWord ml_RX10_54 o_X_41 rfl rfl ⟨rfl, rfl⟩ ⟨Nat.le_of_ble_eq_true rfl, Nat.le_of_ble_eq_true rfl⟩ rfl rfl (Nat.le_of_ble_eq_true rfl) dX10_wishInHand_25 ?_
      refine r_if_eq (tgt := 33) X dX10_wishInHand_28 (by decide) (fun hc6 => ?_) (fun hc6 => ?_)
      · have hf := ite_yes hc6 hf
        refine r_aload_n X 0 dX10_wishInHand_33 rfl rfl ?_
        refine r_ldcS X 4 (by decide) rfl dX10_wishInHand_34 ?_
        obtain ⟨q7, hq7, hf⟩ := bd_some hf
        refine r_callVI X (As := [.ref (ad 1004)]) (st := []) (as := fun ad => [.ref (ad 41), .ref (ad 1004)]) (c_Read_isWord (by decide) hq7) rfl yw_X10_isWord yv_X10_isWord ml_RX10_54 o_X_41 rfl rfl ⟨rfl, rfl⟩ ⟨Nat.le_of_ble_eq_true rfl, Nat.le_of_ble_eq_true rfl⟩ rfl rfl (Nat.le_of_ble_eq_true rfl) dX10_wishInHand_36 ?_
        refine r_if_eq (tgt := 46) X dX10_wishInHand_39 (by decide) (fun hc8 => ?_) (fun hc8 => ?_)
        · have hf := ite_yes hc8 hf
          refine r_iconst X dX10_wishInHand_46 ?_
          exact r_ireturn X hf dX10_wishInHand_47
        · have hf := ite_no hc8 hf
          refine r_iconst X dX10_wishInHand_42 ?_
          refine r_goto (tgt := 47) X dX10_wishInHand_43 (by decide) ?_
          exact r_ireturn X hf dX10_wishInHand_47
      · have hf := ite_no hc6 hf
        refine r_iconst X dX10_wishInHand_31 ?_
        exact r_ireturn X hf dX10_wishInHand_32
    · have hf := ite_no hc4 hf
      refine r_iconst X dX10_wishInHand_20 ?_
      exact r_ireturn X hf dX10_wishInHand_21
  · have hf := ite_no hc2 hf
    refine r_iconst X dX10_wishInHand_9 ?_
    exact r_ireturn X hf dX10_wishInHand_10
set_option maxRecDepth 100000 in
set_option maxHeartbeats 4000000 in
theorem b_Read_step_55_ok {p : Program} {l : Launch} {e : Env} {s : State} {m : MethodId} {args : Array Value} {below : List Frame} {meth : Method} {c : Code} {D : va_G} {cy : Nat → ClassId} {ad : Nat → Nat} (X : CX p s m args meth c cX10_step RX10 1 none D shX cy ad (aw shX ad)) {F : Nat} {kc : St → Option (St)} {k68 : St → Option (St)} {q : St} (hkc : ∀ sg , kc sg  = some q → GG p l e rm_Read_step s m args below meth c (QV D shX cy ad below args s q) D shX cy ad (aw shX ad) 1 16 [(0, .ref (ad 41))] [] sg) (hk68 : ∀ sg , k68 sg  = some q → GG p l e rm_Read_step s m args below meth c (QV D shX cy ad below args s q) D shX cy ad (aw shX ad) 1 68 [(0, .ref (ad 41))] [] sg) {sg : St} (hf : b_Read_step_55  F kc k68 sg  = some q) : GG p l e rm_Read_step s m args below meth c (QV D shX cy ad below args s q) D shX cy ad (aw shX ad) 1 55 [(0, .ref (ad 41))] [] sg := by
  refine r_aload_n X 0 dX10_step_55 rfl rfl ?_
  refine r_dup X dX10_step_56 rfl ?_
  refine r_getI X fl_10_111 k_X_41_6 dX10_step_57 ?_
  refine r_iconst X dX10_step_60 ?_
  refine r_iadd X dX10_step_61 ?_
  refine r_putI X fp_10_111 k_X_41_6 rfl rfl dX10_step_62 ?_
  refine r_goto (tgt := 16) X dX10_step_65 (by decide) ?_
  exact hkc _ hf
set_option maxRecDepth 100000 in
set_option maxHeartbeats 4000000 in
theorem b_Read_step_16_ok {p : Program} {l : Launch} {e : Env} {s : State} {m : MethodId} {args : Array Value} {below : List Frame} {meth : Method} {c : Code} {D : va_G} {cy : Nat → ClassId} {ad : Nat → Nat} (X : CX p s m args meth c cX10_step RX10 1 none D shX cy ad (aw shX ad)) {F : Nat} {kc : St → Option (St)} {k68 : St → Option (St)} {q : St} (hkc : ∀ sg , kc sg  = some q → GG p l e rm_Read_step s m args below meth c (QV D shX cy ad below args s q) D shX cy ad (aw shX ad) 1 16 [(0, .ref (ad 41))] [] sg) (hk68 : ∀ sg , k68 sg  = some q → GG p l e rm_Read_step s m args below meth c (QV D shX cy ad below args s q) D shX cy ad (aw shX ad) 1 68 [(0, .ref (ad 41))] [] sg) {sg : St} (hf : b_Read_step_16  F kc k68 sg  = some q) : GG p l e rm_Read_step s m args below meth c (QV D shX cy ad below args s q) D shX cy ad (aw shX ad) 1 16 [(0, .ref (ad 41))] [] sg := by
  refine r_aload_n X 0 dX10_step_16 rfl rfl ?_
  refine r_getI X fl_10_111 k_X_41_6 dX10_step_17 ?_
  refine r_aload_n X 0 dX10_step_20 rfl rfl ?_
  refine r_getI X fl_10_31 k_X_41_4 dX10_step_21 ?_
  refine r_icmp_ge (tgt := 68) X dX10_step_24 (by decide) (fun hc1 => ?_) (fun hc1 => ?_)
  · have hf := ite_yes hc1 hf
    exact hk68 _ hf
  · have hf := ite_no hc1 hf
    refine r_aload_n X 0 dX10_step_27 rfl rfl ?_
    refine r_getR X fl_10_18 k_X_41_3 dX10_step_28 ?_
    refine r_aload_n X 0 dX10_step_31 rfl rfl ?_
    refine r_getI X fl_10_111 k_X_41_6 dX10_step_32 ?_
    obtain ⟨hg2, hf⟩ := gd_some hf
    refine r_bald X a_X_42 hg2 dX10_step_35 ?_
    refine r_bipush X dX10_step_36 (by decide) ?_
    refine r_icmp_eq (tgt := 55) X dX10_step_38 (by decide) (fun hc3 => ?_) (fun hc3 => ?_)
    · have hf := ite_yes hc3 hf
      exact b_Read_step_55_ok X hkc hk68 hf
    · have hf := ite_no hc3 hf
      refine r_aload_n X 0 dX10_step_41 rfl rfl ?_
      refine r_getR X fl_10_18 k_X_41_3 dX10_step_42 ?_
      refine r_aload_n X 0 dX10_step_45 rfl rfl ?_
      refine r_getI X fl_10_111 k_X_41_6 dX10_step_46 ?_
      obtain ⟨hg4, hf⟩ := gd_some hf
      refine r_bald X a_X_42 hg4 dX10_step_49 ?_
      refine r_bipush X dX10_step_50 (by decide) ?_
      refine r_icmp_ne (tgt := 68) X dX10_step_52 (by decide) (fun hc5 => ?_) (fun hc5 => ?_)
      · have hf := ite_yes hc5 hf
        exact b_Read_step_55_ok X hkc hk68 hf
      · have hf := ite_no hc5 hf
        exact hk68 _ hf
set_option maxRecDepth 100000 in
set_option maxHeartbeats 4000000 in
theorem l_Read_step_16_ok {p : Program} {l : Launch} {e : Env} {s : State} {m : MethodId} {args : Array Value} {below : List Frame} {meth : Method} {c : Code} {D : va_G} {cy : Nat → ClassId} {ad : Nat → Nat} (X : CX p s m args meth c cX10_step RX10 1 none D shX cy ad (aw shX ad)) {F : Nat} {k68 : St → Option (St)} {q : St} (hk68 : ∀ sg , k68 sg  = some q → GG p l e rm_Read_step s m args below meth c (QV D shX cy ad below args s q) D shX cy ad (aw shX ad) 1 68 [(0, .ref (ad 41))] [] sg) : ∀ (n : Nat) (sg : St) , l_Read_step_16  F k68 n sg  = some q → GG p l e rm_Read_step s m args below meth c (QV D shX cy ad below args s q) D shX cy ad (aw shX ad) 1 16 [(0, .ref (ad 41))] [] sg := by
  intro n
  induction n with
  | zero => intro sg  h; cases h
  | succ n ih => exact fun sg  h => b_Read_step_16_ok X ih hk68 h
set_option maxRecDepth 100000 in
set_option maxHeartbeats 4000000 in
theorem b_Read_step_204_ok {p : Program} {l : Launch} {e : Env} {s : State} {m : MethodId} {args : Array Value} {below : List Frame} {meth : Method} {c : Code} {D : va_G} {cy : Nat → ClassId} {ad : Nat → Nat} (X : CX p s m args meth c cX10_step RX10 1 none D shX cy ad (aw shX ad)) {F : Nat} {q : St} {sg : St} (hf : b_Read_step_204  F  sg  = some q) : GG p l e rm_Read_step s m args below meth c (QV D shX cy ad below args s q) D shX cy ad (aw shX ad) 1 204 [(0, .ref (ad 41))] [] sg := by
  refine r_aload_n X 0 dX10_step_204 rfl rfl ?_
  refine r_iconst X dX10_step_205 ?_
  obtain ⟨q1, hq1, hf⟩ := bd_some hf
  refine r_callVV X (As := [mI 1]) (st := []) (as := fun ad => [.ref (ad 41), mI 1]) (c_Read_blame hq1) rfl yw_X10_blame yv_X10_blame ml_RX10_58 o_X_41 rfl rfl ⟨rfl, rfl⟩ ⟨Nat.le_of_ble_eq_true rfl, Nat.le_of_ble_eq_true rfl⟩ rfl rfl (Nat.le_of_ble_eq_true rfl) dX10_step_206 ?_
  exact r_vreturn X hf dX10_step_209
set_option maxRecDepth 100000 in
set_option maxHeartbeats 4000000 in
theorem b_Read_step_144_ok {p : Program} {l : Launch} {e : Env} {s : State} {m : MethodId} {args : Array Value} {below : List Frame} {meth : Method} {c : Code} {D : va_G} {cy : Nat → ClassId} {ad : Nat → Nat} (X : CX p s m args meth c cX10_step RX10 1 none D shX cy ad (aw shX ad)) {F : Nat} {q : St} {sg : St} (hf : b_Read_step_144  F  sg  = some q) : GG p l e rm_Read_step s m args below meth c (QV D shX cy ad below args s q) D shX cy ad (aw shX ad) 1 144 [(0, .ref (ad 41))] [] sg := by
  refine r_aload_n X 0 dX10_step_144 rfl rfl ?_
  refine r_getI X fl_10_45 k_X_41_5 dX10_step_145 ?_
  refine r_iconst X dX10_step_148 ?_
  refine r_icmp_ne (tgt := 209) X dX10_step_149 (by decide) (fun hc1 => ?_) (fun hc1 => ?_)
  · have hf := ite_yes hc1 hf
    refine r_aload_n X 0 dX10_step_152 rfl rfl ?_
    refine r_getI X fl_10_34 k_X_41_7 dX10_step_153 ?_
    refine r_aload_n X 0 dX10_step_156 rfl rfl ?_
    refine r_getI X fl_10_111 k_X_41_6 dX10_step_157 ?_
    refine r_icmp_ne (tgt := 209) X dX10_step_160 (by decide) (fun hc2 => ?_) (fun hc2 => ?_)
    · have hf := ite_yes hc2 hf
      refine r_aload_n X 0 dX10_step_163 rfl rfl ?_
      refine r_iconst X dX10_step_164 ?_
      refine r_putI X fp_10_45 k_X_41_5 rfl rfl dX10_step_165 ?_
      refine r_aload_n X 0 dX10_step_168 rfl rfl ?_
      refine r_aload_n X 0 dX10_step_169 rfl rfl ?_
      refine r_bipush X dX10_step_170 (by decide) ?_
      refine r_bipush X dX10_step_172 (by decide) ?_
      obtain ⟨q4, hq4, hf⟩ := bd_some hf
      refine r_callVI X (As := [mI 48, mI 57]) (st := [.ref (ad 41)]) (as := fun ad => [.ref (ad 41), mI 48, mI 57]) (c_Read_endOfRun hq4) rfl yw_X10_endOfRun yv_X10_endOfRun ml_RX10_126 o_X_41 rfl rfl ⟨rfl, rfl⟩ ⟨Nat.le_of_ble_eq_true rfl, Nat.le_of_ble_eq_true rfl⟩ rfl rfl (Nat.le_of_ble_eq_true rfl) dX10_step_174 ?_
      refine r_putI X fp_10_34 k_X_41_7 rfl rfl dX10_step_177 ?_
      refine r_aload_n X 0 dX10_step_180 rfl rfl ?_
      refine r_getI X fl_10_34 k_X_41_7 dX10_step_181 ?_
      refine r_aload_n X 0 dX10_step_184 rfl rfl ?_
      refine r_getI X fl_10_111 k_X_41_6 dX10_step_185 ?_
      refine r_icmp_eq (tgt := 204) X dX10_step_188 (by decide) (fun hc6 => ?_) (fun hc6 => ?_)
      · have hf := ite_yes hc6 hf
        exact b_Read_step_204_ok X  hf
      · have hf := ite_no hc6 hf
        refine r_aload_n X 0 dX10_step_191 rfl rfl ?_
        refine r_getI X fl_10_34 k_X_41_7 dX10_step_192 ?_
        refine r_aload_n X 0 dX10_step_195 rfl rfl ?_
        refine r_getI X fl_10_111 k_X_41_6 dX10_step_196 ?_
        refine r_isub X dX10_step_199 ?_
        refine r_iconst X dX10_step_200 ?_
        refine r_icmp_le (tgt := 209) X dX10_step_201 (by decide) (fun hc7 => ?_) (fun hc7 => ?_)
        · have hf := ite_yes hc7 hf
          exact r_vreturn X hf dX10_step_209
        · have hf := ite_no hc7 hf
          exact b_Read_step_204_ok X  hf
    · have hf := ite_no hc2 hf
      exact r_vreturn X hf dX10_step_209
  · have hf := ite_no hc1 hf
    exact r_vreturn X hf dX10_step_209
set_option maxRecDepth 100000 in
set_option maxHeartbeats 4000000 in
theorem b_Read_step_68_ok {p : Program} {l : Launch} {e : Env} {s : State} {m : MethodId} {args : Array Value} {below : List Frame} {meth : Method} {c : Code} {D : va_G} {cy : Nat → ClassId} {ad : Nat → Nat} (X : CX p s m args meth c cX10_step RX10 1 none D shX cy ad (aw shX ad)) {F : Nat} {q : St} {sg : St} (hf : b_Read_step_68  F  sg  = some q) : GG p l e rm_Read_step s m args below meth c (QV D shX cy ad below args s q) D shX cy ad (aw shX ad) 1 68 [(0, .ref (ad 41))] [] sg := by
  refine r_aload_n X 0 dX10_step_68 rfl rfl ?_
  refine r_getI X fl_10_111 k_X_41_6 dX10_step_69 ?_
  refine r_aload_n X 0 dX10_step_72 rfl rfl ?_
  refine r_getI X fl_10_31 k_X_41_4 dX10_step_73 ?_
  refine r_icmp_lt (tgt := 95) X dX10_step_76 (by decide) (fun hc1 => ?_) (fun hc1 => ?_)
  · have hf := ite_yes hc1 hf
    refine r_aload_n X 0 dX10_step_95 rfl rfl ?_
    refine r_getR X fl_10_18 k_X_41_3 dX10_step_96 ?_
    refine r_aload_n X 0 dX10_step_99 rfl rfl ?_
    refine r_getI X fl_10_111 k_X_41_6 dX10_step_100 ?_
    obtain ⟨hg4, hf⟩ := gd_some hf
    refine r_bald X a_X_42 hg4 dX10_step_103 ?_
    refine r_bipush X dX10_step_104 (by decide) ?_
    refine r_icmp_ne (tgt := 127) X dX10_step_106 (by decide) (fun hc5 => ?_) (fun hc5 => ?_)
    · have hf := ite_yes hc5 hf
      refine r_aload_n X 0 dX10_step_109 rfl rfl ?_
      refine r_iconst X dX10_step_110 ?_
      refine r_putI X fp_10_45 k_X_41_5 rfl rfl dX10_step_111 ?_
      refine r_aload_n X 0 dX10_step_114 rfl rfl ?_
      refine r_aload_n X 0 dX10_step_115 rfl rfl ?_
      refine r_getI X fl_10_111 k_X_41_6 dX10_step_116 ?_
      refine r_iconst X dX10_step_119 ?_
      refine r_iadd X dX10_step_120 ?_
      refine r_putI X fp_10_34 k_X_41_7 rfl rfl dX10_step_121 ?_
      refine r_goto (tgt := 144) X dX10_step_124 (by decide) ?_
      exact b_Read_step_144_ok X  hf
    · have hf := ite_no hc5 hf
      refine r_aload_n X 0 dX10_step_127 rfl rfl ?_
      refine r_iconst X dX10_step_128 ?_
      refine r_putI X fp_10_45 k_X_41_5 rfl rfl dX10_step_129 ?_
      refine r_aload_n X 0 dX10_step_132 rfl rfl ?_
      refine r_aload_n X 0 dX10_step_133 rfl rfl ?_
      refine r_bipush X dX10_step_134 (by decide) ?_
      refine r_bipush X dX10_step_136 (by decide) ?_
      obtain ⟨q9, hq9, hf⟩ := bd_some hf
      refine r_callVI X (As := [mI 97, mI 122]) (st := [.ref (ad 41)]) (as := fun ad => [.ref (ad 41), mI 97, mI 122]) (c_Read_endOfRun hq9) rfl yw_X10_endOfRun yv_X10_endOfRun ml_RX10_126 o_X_41 rfl rfl ⟨rfl, rfl⟩ ⟨Nat.le_of_ble_eq_true rfl, Nat.le_of_ble_eq_true rfl⟩ rfl rfl (Nat.le_of_ble_eq_true rfl) dX10_step_138 ?_
      refine r_putI X fp_10_34 k_X_41_7 rfl rfl dX10_step_141 ?_
      exact b_Read_step_144_ok X  hf
  · have hf := ite_no hc1 hf
    refine r_aload_n X 0 dX10_step_79 rfl rfl ?_
    refine r_iconst X dX10_step_80 ?_
    refine r_putI X fp_10_45 k_X_41_5 rfl rfl dX10_step_81 ?_
    refine r_aload_n X 0 dX10_step_84 rfl rfl ?_
    refine r_aload_n X 0 dX10_step_85 rfl rfl ?_
    refine r_getI X fl_10_31 k_X_41_4 dX10_step_86 ?_
    refine r_putI X fp_10_34 k_X_41_7 rfl rfl dX10_step_89 ?_
    refine r_goto (tgt := 144) X dX10_step_92 (by decide) ?_
    exact b_Read_step_144_ok X  hf
set_option maxRecDepth 100000 in
set_option maxHeartbeats 4000000 in
theorem c_Read_step {l : Launch} {F : Nat} {sg : St} {q : St} (hf : f_Read_step F  sg  = some q) : MV l shX yX10_step cX10_step 1 none rm_Read_step (fun ad => [.ref (ad 41)]) sg q := by
  refine mk_v (by decide) (fun _ => Nat.le_of_ble_eq_true rfl) (fun p e s m args below meth c D cy ad X => ?_)
  have X : CX p s m args meth c cX10_step RX10 1 none D shX cy ad (aw shX ad) := X
  refine r_perm (lv2 := [(0, .ref (ad 41))]) [0] rfl ?_
  refine r_aload_n X 0 dX10_step_0 rfl rfl ?_
  refine r_getI X fl_10_9 k_X_41_1 dX10_step_1 ?_
  refine r_if_eq (tgt := 8) X dX10_step_4 (by decide) (fun hc1 => ?_) (fun hc1 => ?_)
  · have hf := ite_yes hc1 hf
    refine r_aload_n X 0 dX10_step_8 rfl rfl ?_
    refine r_aload_n X 0 dX10_step_9 rfl rfl ?_
    refine r_getI X fl_10_34 k_X_41_7 dX10_step_10 ?_
    refine r_putI X fp_10_111 k_X_41_6 rfl rfl dX10_step_13 ?_
    refine l_Read_step_16_ok X ?_ F _  hf
    · intro s3  hf
      exact b_Read_step_68_ok X  hf
  · have hf := ite_no hc1 hf
    exact r_vreturn X hf dX10_step_7
set_option maxRecDepth 100000 in
set_option maxHeartbeats 4000000 in
theorem b_H_board_40_ok {p : Program} {l : Launch} {e : Env} {s : State} {m : MethodId} {args : Array Value} {below : List Frame} {meth : Method} {c : Code} {D : va_G} {cy : Nat → ClassId} {ad : Nat → Nat} (X : CX p s m args meth c cX11_board RX11 6 (some .int) D shX cy ad (aw shX ad)) {F : Nat} {q : Int × St} {sg : St} (hf : b_H_board_40  F  sg  = some q) : GG p l e rm_H_board s m args below meth c (QI D shX cy ad below args s q) D shX cy ad (aw shX ad) 6 40 [(0, .ref (ad 0))] [] sg := by
  refine r_aload_n X 0 dX11_board_40 rfl rfl ?_
  refine r_iconst X dX11_board_41 ?_
  obtain ⟨q1, hq1, hf⟩ := bd_some hf
  refine r_callVI X (As := [mI 2]) (st := []) (as := fun ad => [.ref (ad 0), mI 2]) (c_H_none hq1) rfl yw_X11_none yv_X11_none ml_RX11_100 o_X_0 rfl rfl ⟨rfl, rfl⟩ ⟨Nat.le_of_ble_eq_true rfl, Nat.le_of_ble_eq_true rfl⟩ rfl rfl (Nat.le_of_ble_eq_true rfl) dX11_board_42 ?_
  exact r_ireturn X hf dX11_board_45
set_option maxRecDepth 100000 in
set_option maxHeartbeats 4000000 in
theorem c_H_board {l : Launch} {sg : St} {x1 x2 x3 x4 x5 : Int} {q : Int × St} (hf : f_H_board  sg x1 x2 x3 x4 x5 = some q) : MI l shX yX11_board cX11_board 6 (some .int) rm_H_board (fun ad => [.ref (ad 0), mI x1, mI x2, mI x3, mI x4, mI x5]) sg q.2 q.1 := by
  refine mk_i (by decide) (fun _ => Nat.le_of_ble_eq_true rfl) (fun p e s m args below meth c D cy ad X => ?_)
  have X : CX p s m args meth c cX11_board RX11 6 (some .int) D shX cy ad (aw shX ad) := X
  refine r_perm (lv2 := [(0, .ref (ad 0)), (1, mI x1), (2, mI x2), (3, mI x3), (4, mI x4), (5, mI x5)]) [0, 1, 2, 3, 4, 5] rfl ?_
  refine r_iload_n X 1 dX11_board_0 rfl rfl ?_
  refine r_iconst X dX11_board_1 ?_
  refine r_bipush X dX11_board_2 (by decide) ?_
  obtain ⟨q1, hq1, hf⟩ := bd_some hf
  refine r_callSI X (As := [mI x1, mI 0, mI 7]) (st := []) (as := fun ad => [mI x1, mI 0, mI 7]) (c_H_within hq1) rfl yw_X11_within ys_X11_within ml_RX11_96 ⟨rfl, rfl⟩ ⟨Nat.le_of_ble_eq_true rfl, Nat.le_of_ble_eq_true rfl⟩ rfl rfl (Nat.le_of_ble_eq_true rfl) dX11_board_4 ?_
  refine r_if_eq (tgt := 40) X dX11_board_7 (by decide) (fun hc2 => ?_) (fun hc2 => ?_)
  · have hf := ite_yes hc2 hf
    refine r_perm (lv2 := [(0, .ref (ad 0))]) [0] rfl ?_
    exact b_H_board_40_ok X  hf
  · have hf := ite_no hc2 hf
    refine r_iload_n X 2 dX11_board_10 rfl rfl ?_
    refine r_iconst X dX11_board_11 ?_
    refine r_iconst X dX11_board_12 ?_
    obtain ⟨q3, hq3, hf⟩ := bd_some hf
    refine r_callSI X (As := [mI x2, mI 0, mI 3]) (st := []) (as := fun ad => [mI x2, mI 0, mI 3]) (c_H_within hq3) rfl yw_X11_within ys_X11_within ml_RX11_96 ⟨rfl, rfl⟩ ⟨Nat.le_of_ble_eq_true rfl, Nat.le_of_ble_eq_true rfl⟩ rfl rfl (Nat.le_of_ble_eq_true rfl) dX11_board_13 ?_
    refine r_if_eq (tgt := 40) X dX11_board_16 (by decide) (fun hc4 => ?_) (fun hc4 => ?_)
    · have hf := ite_yes hc4 hf
      refine r_perm (lv2 := [(0, .ref (ad 0))]) [0] rfl ?_
      exact b_H_board_40_ok X  hf
    · have hf := ite_no hc4 hf
      refine r_iload_n X 3 dX11_board_19 rfl rfl ?_
      refine r_iconst X dX11_board_20 ?_
      refine r_bipush X dX11_board_21 (by decide) ?_
      obtain ⟨q5, hq5, hf⟩ := bd_some hf
      refine r_callSI X (As := [mI x3, mI 0, mI 15]) (st := []) (as := fun ad => [mI x3, mI 0, mI 15]) (c_H_within hq5) rfl yw_X11_within ys_X11_within ml_RX11_96 ⟨rfl, rfl⟩ ⟨Nat.le_of_ble_eq_true rfl, Nat.le_of_ble_eq_true rfl⟩ rfl rfl (Nat.le_of_ble_eq_true rfl) dX11_board_23 ?_
      refine r_if_eq (tgt := 40) X dX11_board_26 (by decide) (fun hc6 => ?_) (fun hc6 => ?_)
      · have hf := ite_yes hc6 hf
        refine r_perm (lv2 := [(0, .ref (ad 0))]) [0] rfl ?_
        exact b_H_board_40_ok X  hf
      · have hf := ite_no hc6 hf
        refine r_iload X 4 dX11_board_29 rfl ?_
        refine r_iconst X dX11_board_31 ?_
        refine r_bipush X dX11_board_32 (by decide) ?_
        obtain ⟨q7, hq7, hf⟩ := bd_some hf
        refine r_callSI X (As := [mI x4, mI 0, mI 99]) (st := []) (as := fun ad => [mI x4, mI 0, mI 99]) (c_H_within hq7) rfl yw_X11_within ys_X11_within ml_RX11_96 ⟨rfl, rfl⟩ ⟨Nat.le_of_ble_eq_true rfl, Nat.le_of_ble_eq_true rfl⟩ rfl rfl (Nat.le_of_ble_eq_true rfl) dX11_board_34 ?_
        refine r_if_ne (tgt := 46) X dX11_board_37 (by decide) (fun hc8 => ?_) (fun hc8 => ?_)
        · have hf := ite_yes hc8 hf
          refine r_perm (lv2 := [(0, .ref (ad 0))]) [0] rfl ?_
          exact b_H_board_40_ok X  hf
        · have hf := ite_no hc8 hf
          refine r_aload_n X 0 dX11_board_46 rfl rfl ?_
          refine r_getR X fl_11_10 k_X_0_0 dX11_board_47 ?_
          refine r_getI X fl_11_104 k_X_1_0 dX11_board_50 ?_
          refine r_bipush X dX11_board_53 (by decide) ?_
          refine r_icmp_lt (tgt := 64) X dX11_board_55 (by decide) (fun hc9 => ?_) (fun hc9 => ?_)
          · have hf := ite_yes hc9 hf
            refine r_aload_n X 0 dX11_board_64 rfl rfl ?_
            refine r_aload_n X 0 dX11_board_65 rfl rfl ?_
            refine r_getR X fl_11_10 k_X_0_0 dX11_board_66 ?_
            refine r_iload_n X 1 dX11_board_69 rfl rfl ?_
            refine r_iload_n X 2 dX11_board_70 rfl rfl ?_
            refine r_iload_n X 3 dX11_board_71 rfl rfl ?_
            refine r_iload X 4 dX11_board_72 rfl ?_
            refine r_iload X 5 dX11_board_74 rfl ?_
            obtain ⟨q11, hq11, hf⟩ := bd_some hf
            refine r_callVI X (As := [mI x1, mI x2, mI x3, mI x4, mI x5]) (st := [.ref (ad 0)]) (as := fun ad => [.ref (ad 1), mI x1, mI x2, mI x3, mI x4, mI x5]) (c_Boards_add hq11) rfl yw_X0_add yv_X0_add ml_RX11_107 o_X_1 rfl rfl ⟨rfl, rfl⟩ ⟨Nat.le_of_ble_eq_true rfl, Nat.le_of_ble_eq_true rfl⟩ rfl rfl (Nat.le_of_ble_eq_true rfl) dX11_board_76 ?_
            obtain ⟨q12, hq12, hf⟩ := bd_some hf
            refine r_callVI X (As := [mI q11.1]) (st := []) (as := fun ad => [.ref (ad 0), mI q11.1]) (c_H_answer hq12) rfl yw_X11_answer yv_X11_answer ml_RX11_111 o_X_0 rfl rfl ⟨rfl, rfl⟩ ⟨Nat.le_of_ble_eq_true rfl, Nat.le_of_ble_eq_true rfl⟩ rfl rfl (Nat.le_of_ble_eq_true rfl) dX11_board_79 ?_
            exact r_ireturn X hf dX11_board_82
          · have hf := ite_no hc9 hf
            refine r_aload_n X 0 dX11_board_58 rfl rfl ?_
            refine r_iconst X dX11_board_59 ?_
            obtain ⟨q10, hq10, hf⟩ := bd_some hf
            refine r_callVI X (As := [mI 3]) (st := []) (as := fun ad => [.ref (ad 0), mI 3]) (c_H_none hq10) rfl yw_X11_none yv_X11_none ml_RX11_100 o_X_0 rfl rfl ⟨rfl, rfl⟩ ⟨Nat.le_of_ble_eq_true rfl, Nat.le_of_ble_eq_true rfl⟩ rfl rfl (Nat.le_of_ble_eq_true rfl) dX11_board_60 ?_
            exact r_ireturn X hf dX11_board_63
set_option maxRecDepth 100000 in
set_option maxHeartbeats 4000000 in
theorem b_H_judge_31_ok {p : Program} {l : Launch} {e : Env} {s : State} {m : MethodId} {args : Array Value} {below : List Frame} {meth : Method} {c : Code} {D : va_G} {cy : Nat → ClassId} {ad : Nat → Nat} (X : CX p s m args meth c cX11_judge RX11 4 (some .int) D shX cy ad (aw shX ad)) {F : Nat} {q : Int × St} {sg : St} (hf : b_H_judge_31  F  sg  = some q) : GG p l e rm_H_judge s m args below meth c (QI D shX cy ad below args s q) D shX cy ad (aw shX ad) 4 31 [(0, .ref (ad 0))] [] sg := by
  refine r_aload_n X 0 dX11_judge_31 rfl rfl ?_
  refine r_iconst X dX11_judge_32 ?_
  obtain ⟨q1, hq1, hf⟩ := bd_some hf
  refine r_callVI X (As := [mI 2]) (st := []) (as := fun ad => [.ref (ad 0), mI 2]) (c_H_none hq1) rfl yw_X11_none yv_X11_none ml_RX11_100 o_X_0 rfl rfl ⟨rfl, rfl⟩ ⟨Nat.le_of_ble_eq_true rfl, Nat.le_of_ble_eq_true rfl⟩ rfl rfl (Nat.le_of_ble_eq_true rfl) dX11_judge_33 ?_
  exact r_ireturn X hf dX11_judge_36
set_option maxRecDepth 100000 in
set_option maxHeartbeats 4000000 in
theorem c_H_judge {l : Launch} {sg : St} {x1 x2 x3 : Int} {q : Int × St} (hf : f_H_judge  sg x1 x2 x3 = some q) : MI l shX yX11_judge cX11_judge 4 (some .int) rm_H_judge (fun ad => [.ref (ad 0), mI x1, mI x2, mI x3]) sg q.2 q.1 := by
  refine mk_i (by decide) (fun _ => Nat.le_of_ble_eq_true rfl) (fun p e s m args below meth c D cy ad X => ?_)
  have X : CX p s m args meth c cX11_judge RX11 4 (some .int) D shX cy ad (aw shX ad) := X
  refine r_perm (lv2 := [(0, .ref (ad 0)), (1, mI x1), (2, mI x2), (3, mI x3)]) [0, 1, 2, 3] rfl ?_
  refine r_iload_n X 1 dX11_judge_0 rfl rfl ?_
  refine r_iconst X dX11_judge_1 ?_
  refine r_sipush X dX11_judge_2 (by decide) ?_
  obtain ⟨q1, hq1, hf⟩ := bd_some hf
  refine r_callSI X (As := [mI x1, mI 0, mI 255]) (st := []) (as := fun ad => [mI x1, mI 0, mI 255]) (c_H_within hq1) rfl yw_X11_within ys_X11_within ml_RX11_96 ⟨rfl, rfl⟩ ⟨Nat.le_of_ble_eq_true rfl, Nat.le_of_ble_eq_true rfl⟩ rfl rfl (Nat.le_of_ble_eq_true rfl) dX11_judge_5 ?_
  refine r_if_eq (tgt := 31) X dX11_judge_8 (by decide) (fun hc2 => ?_) (fun hc2 => ?_)
  · have hf := ite_yes hc2 hf
    refine r_perm (lv2 := [(0, .ref (ad 0))]) [0] rfl ?_
    exact b_H_judge_31_ok X  hf
  · have hf := ite_no hc2 hf
    refine r_iload_n X 2 dX11_judge_11 rfl rfl ?_
    refine r_iconst X dX11_judge_12 ?_
    refine r_bipush X dX11_judge_13 (by decide) ?_
    obtain ⟨q3, hq3, hf⟩ := bd_some hf
    refine r_callSI X (As := [mI x2, mI (-1), mI 15]) (st := []) (as := fun ad => [mI x2, mI (-1), mI 15]) (c_H_within hq3) rfl yw_X11_within ys_X11_within ml_RX11_96 ⟨rfl, rfl⟩ ⟨Nat.le_of_ble_eq_true rfl, Nat.le_of_ble_eq_true rfl⟩ rfl rfl (Nat.le_of_ble_eq_true rfl) dX11_judge_15 ?_
    refine r_if_eq (tgt := 31) X dX11_judge_18 (by decide) (fun hc4 => ?_) (fun hc4 => ?_)
    · have hf := ite_yes hc4 hf
      refine r_perm (lv2 := [(0, .ref (ad 0))]) [0] rfl ?_
      exact b_H_judge_31_ok X  hf
    · have hf := ite_no hc4 hf
      refine r_iload_n X 3 dX11_judge_21 rfl rfl ?_
      refine r_iconst X dX11_judge_22 ?_
      refine r_bipush X dX11_judge_23 (by decide) ?_
      obtain ⟨q5, hq5, hf⟩ := bd_some hf
      refine r_callSI X (As := [mI x3, mI 0, mI 24]) (st := []) (as := fun ad => [mI x3, mI 0, mI 24]) (c_H_within hq5) rfl yw_X11_within ys_X11_within ml_RX11_96 ⟨rfl, rfl⟩ ⟨Nat.le_of_ble_eq_true rfl, Nat.le_of_ble_eq_true rfl⟩ rfl rfl (Nat.le_of_ble_eq_true rfl) dX11_judge_25 ?_
      refine r_if_ne (tgt := 37) X dX11_judge_28 (by decide) (fun hc6 => ?_) (fun hc6 => ?_)
      · have hf := ite_yes hc6 hf
        refine r_perm (lv2 := [(0, .ref (ad 0))]) [0] rfl ?_
        exact b_H_judge_31_ok X  hf
      · have hf := ite_no hc6 hf
        refine r_aload_n X 0 dX11_judge_37 rfl rfl ?_
        refine r_getR X fl_11_19 k_X_0_1 dX11_judge_38 ?_
        refine r_getI X fl_11_114 k_X_7_0 dX11_judge_41 ?_
        refine r_bipush X dX11_judge_44 (by decide) ?_
        refine r_icmp_lt (tgt := 55) X dX11_judge_46 (by decide) (fun hc7 => ?_) (fun hc7 => ?_)
        · have hf := ite_yes hc7 hf
          refine r_aload_n X 0 dX11_judge_55 rfl rfl ?_
          refine r_aload_n X 0 dX11_judge_56 rfl rfl ?_
          refine r_getR X fl_11_19 k_X_0_1 dX11_judge_57 ?_
          refine r_iload_n X 1 dX11_judge_60 rfl rfl ?_
          refine r_iload_n X 2 dX11_judge_61 rfl rfl ?_
          refine r_iload_n X 3 dX11_judge_62 rfl rfl ?_
          obtain ⟨q9, hq9, hf⟩ := bd_some hf
          refine r_callVI X (As := [mI x1, mI x2, mI x3]) (st := [.ref (ad 0)]) (as := fun ad => [.ref (ad 7), mI x1, mI x2, mI x3]) (c_Judges_add hq9) rfl yw_X4_add yv_X4_add ml_RX11_115 o_X_7 rfl rfl ⟨rfl, rfl⟩ ⟨Nat.le_of_ble_eq_true rfl, Nat.le_of_ble_eq_true rfl⟩ rfl rfl (Nat.le_of_ble_eq_true rfl) dX11_judge_63 ?_
          obtain ⟨q10, hq10, hf⟩ := bd_some hf
          refine r_callVI X (As := [mI q9.1]) (st := []) (as := fun ad => [.ref (ad 0), mI q9.1]) (c_H_answer hq10) rfl yw_X11_answer yv_X11_answer ml_RX11_111 o_X_0 rfl rfl ⟨rfl, rfl⟩ ⟨Nat.le_of_ble_eq_true rfl, Nat.le_of_ble_eq_true rfl⟩ rfl rfl (Nat.le_of_ble_eq_true rfl) dX11_judge_66 ?_
          exact r_ireturn X hf dX11_judge_69
        · have hf := ite_no hc7 hf
          refine r_aload_n X 0 dX11_judge_49 rfl rfl ?_
          refine r_iconst X dX11_judge_50 ?_
          obtain ⟨q8, hq8, hf⟩ := bd_some hf
          refine r_callVI X (As := [mI 3]) (st := []) (as := fun ad => [.ref (ad 0), mI 3]) (c_H_none hq8) rfl yw_X11_none yv_X11_none ml_RX11_100 o_X_0 rfl rfl ⟨rfl, rfl⟩ ⟨Nat.le_of_ble_eq_true rfl, Nat.le_of_ble_eq_true rfl⟩ rfl rfl (Nat.le_of_ble_eq_true rfl) dX11_judge_51 ?_
          exact r_ireturn X hf dX11_judge_54
set_option maxRecDepth 100000 in
set_option maxHeartbeats 4000000 in
theorem c_H_told {l : Launch} {F : Nat} {sg : St} {x1 x2 : Int} {q : Int × St} (hf : f_H_told F  sg x1 x2 = some q) : MI l shX yX11_told cX11_told 3 (some .int) rm_H_told (fun ad => [.ref (ad 0), mI x1, mI x2]) sg q.2 q.1 := by
  refine mk_i (by decide) (fun _ => Nat.le_of_ble_eq_true rfl) (fun p e s m args below meth c D cy ad X => ?_)
  have X : CX p s m args meth c cX11_told RX11 3 (some .int) D shX cy ad (aw shX ad) := X
  refine r_perm (lv2 := [(0, .ref (ad 0)), (1, mI x1), (2, mI x2)]) [0, 1, 2] rfl ?_
  refine r_aload_n X 0 dX11_told_0 rfl rfl ?_
  refine r_getR X fl_11_10 k_X_0_0 dX11_told_1 ?_
  refine r_iload_n X 1 dX11_told_4 rfl rfl ?_
  obtain ⟨q1, hq1, hf⟩ := bd_some hf
  refine r_callVI X (As := [mI x1]) (st := []) (as := fun ad => [.ref (ad 1), mI x1]) (c_Boards_has hq1) rfl yw_X0_has yv_X0_has ml_RX11_118 o_X_1 rfl rfl ⟨rfl, rfl⟩ ⟨Nat.le_of_ble_eq_true rfl, Nat.le_of_ble_eq_true rfl⟩ rfl rfl (Nat.le_of_ble_eq_true rfl) dX11_told_5 ?_
  refine r_if_ne (tgt := 17) X dX11_told_8 (by decide) (fun hc2 => ?_) (fun hc2 => ?_)
  · have hf := ite_yes hc2 hf
    refine r_aload_n X 0 dX11_told_11 rfl rfl ?_
    refine r_iconst X dX11_told_12 ?_
    obtain ⟨q3, hq3, hf⟩ := bd_some hf
    refine r_callVI X (As := [mI 1]) (st := []) (as := fun ad => [.ref (ad 0), mI 1]) (c_H_none hq3) rfl yw_X11_none yv_X11_none ml_RX11_100 o_X_0 rfl rfl ⟨rfl, rfl⟩ ⟨Nat.le_of_ble_eq_true rfl, Nat.le_of_ble_eq_true rfl⟩ rfl rfl (Nat.le_of_ble_eq_true rfl) dX11_told_13 ?_
    exact r_ireturn X hf dX11_told_16
  · have hf := ite_no hc2 hf
    refine r_iload_n X 2 dX11_told_17 rfl rfl ?_
    refine r_iconst X dX11_told_18 ?_
    refine r_iconst X dX11_told_19 ?_
    obtain ⟨q4, hq4, hf⟩ := bd_some hf
    refine r_callSI X (As := [mI x2, mI 0, mI 5]) (st := []) (as := fun ad => [mI x2, mI 0, mI 5]) (c_H_within hq4) rfl yw_X11_within ys_X11_within ml_RX11_96 ⟨rfl, rfl⟩ ⟨Nat.le_of_ble_eq_true rfl, Nat.le_of_ble_eq_true rfl⟩ rfl rfl (Nat.le_of_ble_eq_true rfl) dX11_told_20 ?_
    refine r_if_ne (tgt := 32) X dX11_told_23 (by decide) (fun hc5 => ?_) (fun hc5 => ?_)
    · have hf := ite_yes hc5 hf
      refine r_aload_n X 0 dX11_told_26 rfl rfl ?_
      refine r_iconst X dX11_told_27 ?_
      obtain ⟨q6, hq6, hf⟩ := bd_some hf
      refine r_callVI X (As := [mI 2]) (st := []) (as := fun ad => [.ref (ad 0), mI 2]) (c_H_none hq6) rfl yw_X11_none yv_X11_none ml_RX11_100 o_X_0 rfl rfl ⟨rfl, rfl⟩ ⟨Nat.le_of_ble_eq_true rfl, Nat.le_of_ble_eq_true rfl⟩ rfl rfl (Nat.le_of_ble_eq_true rfl) dX11_told_28 ?_
      exact r_ireturn X hf dX11_told_31
    · have hf := ite_no hc5 hf
      refine r_iload_n X 2 dX11_told_32 rfl rfl ?_
      refine r_iconst X dX11_told_33 ?_
      refine r_icmp_ne (tgt := 57) X dX11_told_34 (by decide) (fun hc7 => ?_) (fun hc7 => ?_)
      · have hf := ite_yes hc7 hf
        refine r_aload_n X 0 dX11_told_37 rfl rfl ?_
        refine r_aload_n X 0 dX11_told_38 rfl rfl ?_
        refine r_getR X fl_11_19 k_X_0_1 dX11_told_39 ?_
        refine r_aload_n X 0 dX11_told_42 rfl rfl ?_
        refine r_getR X fl_11_10 k_X_0_0 dX11_told_43 ?_
        refine r_iload_n X 1 dX11_told_46 rfl rfl ?_
        obtain ⟨q8, hq8, hf⟩ := bd_some hf
        refine r_callVI X (As := [.ref (ad 1), mI x1]) (st := [.ref (ad 0)]) (as := fun ad => [.ref (ad 7), .ref (ad 1), mI x1]) (c_Judges_allowedFor hq8) rfl yw_X4_allowedFor yv_X4_allowedFor ml_RX11_122 o_X_7 rfl rfl ⟨rfl, rfl⟩ ⟨Nat.le_of_ble_eq_true rfl, Nat.le_of_ble_eq_true rfl⟩ rfl rfl (Nat.le_of_ble_eq_true rfl) dX11_told_47 ?_
        obtain ⟨q9, hq9, hf⟩ := bd_some hf
        refine r_callSI X (As := [mI q8.1]) (st := [.ref (ad 0)]) (as := fun ad => [mI q8.1]) (c_XJ_bitCount hq9) rfl yw_J6_bitCount_0f7a4 ys_J6_bitCount_0f7a4 ml_RX11_126 ⟨rfl, rfl⟩ ⟨Nat.le_of_ble_eq_true rfl, Nat.le_of_ble_eq_true rfl⟩ rfl rfl (Nat.le_of_ble_eq_true rfl) dX11_told_50 ?_
        obtain ⟨q10, hq10, hf⟩ := bd_some hf
        refine r_callVI X (As := [mI q9.1]) (st := []) (as := fun ad => [.ref (ad 0), mI q9.1]) (c_H_answer hq10) rfl yw_X11_answer yv_X11_answer ml_RX11_111 o_X_0 rfl rfl ⟨rfl, rfl⟩ ⟨Nat.le_of_ble_eq_true rfl, Nat.le_of_ble_eq_true rfl⟩ rfl rfl (Nat.le_of_ble_eq_true rfl) dX11_told_53 ?_
        exact r_ireturn X hf dX11_told_56
      · have hf := ite_no hc7 hf
        refine r_aload_n X 0 dX11_told_57 rfl rfl ?_
        refine r_aload_n X 0 dX11_told_58 rfl rfl ?_
        refine r_getR X fl_11_10 k_X_0_0 dX11_told_59 ?_
        refine r_iload_n X 1 dX11_told_62 rfl rfl ?_
        refine r_iload_n X 2 dX11_told_63 rfl rfl ?_
        obtain ⟨q11, hq11, hf⟩ := bd_some hf
        refine r_callVI X (As := [mI x1, mI x2]) (st := [.ref (ad 0)]) (as := fun ad => [.ref (ad 1), mI x1, mI x2]) (c_Boards_trait hq11) rfl yw_X0_trait yv_X0_trait ml_RX11_131 o_X_1 rfl rfl ⟨rfl, rfl⟩ ⟨Nat.le_of_ble_eq_true rfl, Nat.le_of_ble_eq_true rfl⟩ rfl rfl (Nat.le_of_ble_eq_true rfl) dX11_told_64 ?_
        obtain ⟨q12, hq12, hf⟩ := bd_some hf
        refine r_callVI X (As := [mI q11.1]) (st := []) (as := fun ad => [.ref (ad 0), mI q11.1]) (c_H_answer hq12) rfl yw_X11_answer yv_X11_answer ml_RX11_111 o_X_0 rfl rfl ⟨rfl, rfl⟩ ⟨Nat.le_of_ble_eq_true rfl, Nat.le_of_ble_eq_true rfl⟩ rfl rfl (Nat.le_of_ble_eq_true rfl) dX11_told_67 ?_
        exact r_ireturn X hf dX11_told_70
set_option maxRecDepth 100000 in
set_option maxHeartbeats 4000000 in
theorem b_H_may_50_ok {p : Program} {l : Launch} {e : Env} {s : State} {m : MethodId} {args : Array Value} {below : List Frame} {meth : Method} {c : Code} {D : va_G} {cy : Nat → ClassId} {ad : Nat → Nat} (X : CX p s m args meth c cX11_may RX11 3 (some .int) D shX cy ad (aw shX ad)) {F : Nat} {q : Int × St} {sg : St} {z0 : Int} (hf : b_H_may_50  F  sg z0 = some q) : GG p l e rm_H_may s m args below meth c (QI D shX cy ad below args s q) D shX cy ad (aw shX ad) 3 50 [] [mI z0, .ref (ad 0)] sg := by
  obtain ⟨q1, hq1, hf⟩ := bd_some hf
  refine r_callVI X (As := [mI z0]) (st := []) (as := fun ad => [.ref (ad 0), mI z0]) (c_H_answer hq1) rfl yw_X11_answer yv_X11_answer ml_RX11_111 o_X_0 rfl rfl ⟨rfl, rfl⟩ ⟨Nat.le_of_ble_eq_true rfl, Nat.le_of_ble_eq_true rfl⟩ rfl rfl (Nat.le_of_ble_eq_true rfl) dX11_may_50 ?_
  exact r_ireturn X hf dX11_may_53
set_option maxRecDepth 100000 in
set_option maxHeartbeats 4000000 in
theorem b_H_may_22_ok {p : Program} {l : Launch} {e : Env} {s : State} {m : MethodId} {args : Array Value} {below : List Frame} {meth : Method} {c : Code} {D : va_G} {cy : Nat → ClassId} {ad : Nat → Nat} (X : CX p s m args meth c cX11_may RX11 3 (some .int) D shX cy ad (aw shX ad)) {F : Nat} {q : Int × St} {sg : St} (hf : b_H_may_22  F  sg  = some q) : GG p l e rm_H_may s m args below meth c (QI D shX cy ad below args s q) D shX cy ad (aw shX ad) 3 22 [(0, .ref (ad 0))] [] sg := by
  refine r_aload_n X 0 dX11_may_22 rfl rfl ?_
  refine r_iconst X dX11_may_23 ?_
  obtain ⟨q1, hq1, hf⟩ := bd_some hf
  refine r_callVI X (As := [mI 1]) (st := []) (as := fun ad => [.ref (ad 0), mI 1]) (c_H_none hq1) rfl yw_X11_none yv_X11_none ml_RX11_100 o_X_0 rfl rfl ⟨rfl, rfl⟩ ⟨Nat.le_of_ble_eq_true rfl, Nat.le_of_ble_eq_true rfl⟩ rfl rfl (Nat.le_of_ble_eq_true rfl) dX11_may_24 ?_
  exact r_ireturn X hf dX11_may_27
set_option maxRecDepth 100000 in
set_option maxHeartbeats 4000000 in
theorem c_H_may {l : Launch} {sg : St} {x1 x2 : Int} {q : Int × St} (hf : f_H_may  sg x1 x2 = some q) : MI l shX yX11_may cX11_may 3 (some .int) rm_H_may (fun ad => [.ref (ad 0), mI x1, mI x2]) sg q.2 q.1 := by
  refine mk_i (by decide) (fun _ => Nat.le_of_ble_eq_true rfl) (fun p e s m args below meth c D cy ad X => ?_)
  have X : CX p s m args meth c cX11_may RX11 3 (some .int) D shX cy ad (aw shX ad) := X
  refine r_perm (lv2 := [(0, .ref (ad 0)), (1, mI x1), (2, mI x2)]) [0, 1, 2] rfl ?_
  refine r_aload_n X 0 dX11_may_0 rfl rfl ?_
  refine r_getR X fl_11_19 k_X_0_1 dX11_may_1 ?_
  refine r_iload_n X 1 dX11_may_4 rfl rfl ?_
  obtain ⟨q1, hq1, hf⟩ := bd_some hf
  refine r_callVI X (As := [mI x1]) (st := []) (as := fun ad => [.ref (ad 7), mI x1]) (c_Judges_has hq1) rfl yw_X4_has yv_X4_has ml_RX11_135 o_X_7 rfl rfl ⟨rfl, rfl⟩ ⟨Nat.le_of_ble_eq_true rfl, Nat.le_of_ble_eq_true rfl⟩ rfl rfl (Nat.le_of_ble_eq_true rfl) dX11_may_5 ?_
  refine r_if_eq (tgt := 22) X dX11_may_8 (by decide) (fun hc2 => ?_) (fun hc2 => ?_)
  · have hf := ite_yes hc2 hf
    refine r_perm (lv2 := [(0, .ref (ad 0))]) [0] rfl ?_
    exact b_H_may_22_ok X  hf
  · have hf := ite_no hc2 hf
    refine r_aload_n X 0 dX11_may_11 rfl rfl ?_
    refine r_getR X fl_11_10 k_X_0_0 dX11_may_12 ?_
    refine r_iload_n X 2 dX11_may_15 rfl rfl ?_
    obtain ⟨q3, hq3, hf⟩ := bd_some hf
    refine r_callVI X (As := [mI x2]) (st := []) (as := fun ad => [.ref (ad 1), mI x2]) (c_Boards_has hq3) rfl yw_X0_has yv_X0_has ml_RX11_118 o_X_1 rfl rfl ⟨rfl, rfl⟩ ⟨Nat.le_of_ble_eq_true rfl, Nat.le_of_ble_eq_true rfl⟩ rfl rfl (Nat.le_of_ble_eq_true rfl) dX11_may_16 ?_
    refine r_if_ne (tgt := 28) X dX11_may_19 (by decide) (fun hc4 => ?_) (fun hc4 => ?_)
    · have hf := ite_yes hc4 hf
      refine r_perm (lv2 := [(0, .ref (ad 0))]) [0] rfl ?_
      exact b_H_may_22_ok X  hf
    · have hf := ite_no hc4 hf
      refine r_aload_n X 0 dX11_may_28 rfl rfl ?_
      refine r_aload_n X 0 dX11_may_29 rfl rfl ?_
      refine r_getR X fl_11_19 k_X_0_1 dX11_may_30 ?_
      refine r_iload_n X 1 dX11_may_33 rfl rfl ?_
      refine r_aload_n X 0 dX11_may_34 rfl rfl ?_
      refine r_getR X fl_11_10 k_X_0_0 dX11_may_35 ?_
      refine r_iload_n X 2 dX11_may_38 rfl rfl ?_
      obtain ⟨q5, hq5, hf⟩ := bd_some hf
      refine r_callVI X (As := [mI x1, .ref (ad 1), mI x2]) (st := [.ref (ad 0)]) (as := fun ad => [.ref (ad 7), mI x1, .ref (ad 1), mI x2]) (c_Judges_isAllowed hq5) rfl yw_X4_isAllowed yv_X4_isAllowed ml_RX11_136 o_X_7 rfl rfl ⟨rfl, rfl⟩ ⟨Nat.le_of_ble_eq_true rfl, Nat.le_of_ble_eq_true rfl⟩ rfl rfl (Nat.le_of_ble_eq_true rfl) dX11_may_39 ?_
      refine r_if_eq (tgt := 49) X dX11_may_42 (by decide) (fun hc6 => ?_) (fun hc6 => ?_)
      · have hf := ite_yes hc6 hf
        refine r_iconst X dX11_may_49 ?_
        refine r_perm (lv2 := []) [] rfl ?_
        exact b_H_may_50_ok X  hf
      · have hf := ite_no hc6 hf
        refine r_iconst X dX11_may_45 ?_
        refine r_goto (tgt := 50) X dX11_may_46 (by decide) ?_
        refine r_perm (lv2 := []) [] rfl ?_
        exact b_H_may_50_ok X  hf
set_option maxRecDepth 100000 in
set_option maxHeartbeats 4000000 in
theorem c_H_looks {l : Launch} {sg : St} {x1 : Int} {q : Int × St} (hf : f_H_looks  sg x1 = some q) : MI l shX yX11_looks cX11_looks 2 (some .boolean) rm_H_looks (fun ad => [.ref (ad 0), mI x1]) sg q.2 q.1 := by
  refine mk_i (by decide) (fun _ => Nat.le_of_ble_eq_true rfl) (fun p e s m args below meth c D cy ad X => ?_)
  have X : CX p s m args meth c cX11_looks RX11 2 (some .boolean) D shX cy ad (aw shX ad) := X
  refine r_perm (lv2 := [(0, .ref (ad 0)), (1, mI x1)]) [0, 1] rfl ?_
  refine r_iload_n X 1 dX11_looks_0 rfl rfl ?_
  refine r_iconst X dX11_looks_1 ?_
  refine r_iconst X dX11_looks_2 ?_
  obtain ⟨q1, hq1, hf⟩ := bd_some hf
  refine r_callSI X (As := [mI x1, mI 1, mI 4]) (st := []) (as := fun ad => [mI x1, mI 1, mI 4]) (c_H_within hq1) rfl yw_X11_within ys_X11_within ml_RX11_96 ⟨rfl, rfl⟩ ⟨Nat.le_of_ble_eq_true rfl, Nat.le_of_ble_eq_true rfl⟩ rfl rfl (Nat.le_of_ble_eq_true rfl) dX11_looks_3 ?_
  refine r_if_ne (tgt := 15) X dX11_looks_6 (by decide) (fun hc2 => ?_) (fun hc2 => ?_)
  · have hf := ite_yes hc2 hf
    refine r_aload_n X 0 dX11_looks_9 rfl rfl ?_
    refine r_iconst X dX11_looks_10 ?_
    obtain ⟨q3, hq3, hf⟩ := bd_some hf
    refine r_callVI X (As := [mI 2]) (st := []) (as := fun ad => [.ref (ad 0), mI 2]) (c_H_no hq3) rfl yw_X11_no yv_X11_no ml_RX11_140 o_X_0 rfl rfl ⟨rfl, rfl⟩ ⟨Nat.le_of_ble_eq_true rfl, Nat.le_of_ble_eq_true rfl⟩ rfl rfl (Nat.le_of_ble_eq_true rfl) dX11_looks_11 ?_
    obtain ⟨hz4, hf⟩ := gd_some hf
    exact r_zreturn X hf (zn_of hz4) dX11_looks_14
  · have hf := ite_no hc2 hf
    refine r_aload_n X 0 dX11_looks_15 rfl rfl ?_
    refine r_iload_n X 1 dX11_looks_16 rfl rfl ?_
    refine r_putI X fp_11_89 k_X_0_12 rfl rfl dX11_looks_17 ?_
    refine r_aload_n X 0 dX11_looks_20 rfl rfl ?_
    obtain ⟨q6, hq6, hf⟩ := bd_some hf
    refine r_callVI X (As := []) (st := []) (as := fun ad => [.ref (ad 0)]) (c_H_yes hq6) rfl yw_X11_yes yv_X11_yes ml_RX11_143 o_X_0 rfl rfl ⟨rfl, rfl⟩ ⟨Nat.le_of_ble_eq_true rfl, Nat.le_of_ble_eq_true rfl⟩ rfl rfl (Nat.le_of_ble_eq_true rfl) dX11_looks_21 ?_
    obtain ⟨hz7, hf⟩ := gd_some hf
    exact r_zreturn X hf (zn_of hz7) dX11_looks_24
set_option maxRecDepth 100000 in
set_option maxHeartbeats 4000000 in
theorem b_H_sees_38_ok {p : Program} {l : Launch} {e : Env} {s : State} {m : MethodId} {args : Array Value} {below : List Frame} {meth : Method} {c : Code} {D : va_G} {cy : Nat → ClassId} {ad : Nat → Nat} (X : CX p s m args meth c cX11_sees RX11 3 (some .int) D shX cy ad (aw shX ad)) {F : Nat} {q : Int × St} {sg : St} (hf : b_H_sees_38  F  sg  = some q) : GG p l e rm_H_sees s m args below meth c (QI D shX cy ad below args s q) D shX cy ad (aw shX ad) 3 38 [(0, .ref (ad 0))] [] sg := by
  refine r_aload_n X 0 dX11_sees_38 rfl rfl ?_
  refine r_iconst X dX11_sees_39 ?_
  obtain ⟨q1, hq1, hf⟩ := bd_some hf
  refine r_callVI X (As := [mI 1]) (st := []) (as := fun ad => [.ref (ad 0), mI 1]) (c_H_none hq1) rfl yw_X11_none yv_X11_none ml_RX11_100 o_X_0 rfl rfl ⟨rfl, rfl⟩ ⟨Nat.le_of_ble_eq_true rfl, Nat.le_of_ble_eq_true rfl⟩ rfl rfl (Nat.le_of_ble_eq_true rfl) dX11_sees_40 ?_
  exact r_ireturn X hf dX11_sees_43
set_option maxRecDepth 100000 in
set_option maxHeartbeats 4000000 in
theorem c_H_sees {l : Launch} {sg : St} {x1 x2 : Int} {q : Int × St} (hf : f_H_sees  sg x1 x2 = some q) : MI l shX yX11_sees cX11_sees 3 (some .int) rm_H_sees (fun ad => [.ref (ad 0), mI x1, mI x2]) sg q.2 q.1 := by
  refine mk_i (by decide) (fun _ => Nat.le_of_ble_eq_true rfl) (fun p e s m args below meth c D cy ad X => ?_)
  have X : CX p s m args meth c cX11_sees RX11 3 (some .int) D shX cy ad (aw shX ad) := X
  refine r_perm (lv2 := [(0, .ref (ad 0)), (1, mI x1), (2, mI x2)]) [0, 1, 2] rfl ?_
  refine r_aload_n X 0 dX11_sees_0 rfl rfl ?_
  refine r_getR X fl_11_26 k_X_0_2 dX11_sees_1 ?_
  refine r_getI X fl_11_164 k_X_11_0 dX11_sees_4 ?_
  refine r_if_ne (tgt := 16) X dX11_sees_7 (by decide) (fun hc1 => ?_) (fun hc1 => ?_)
  · have hf := ite_yes hc1 hf
    refine r_aload_n X 0 dX11_sees_10 rfl rfl ?_
    refine r_iconst X dX11_sees_11 ?_
    obtain ⟨q2, hq2, hf⟩ := bd_some hf
    refine r_callVI X (As := [mI 4]) (st := []) (as := fun ad => [.ref (ad 0), mI 4]) (c_H_none hq2) rfl yw_X11_none yv_X11_none ml_RX11_100 o_X_0 rfl rfl ⟨rfl, rfl⟩ ⟨Nat.le_of_ble_eq_true rfl, Nat.le_of_ble_eq_true rfl⟩ rfl rfl (Nat.le_of_ble_eq_true rfl) dX11_sees_12 ?_
    exact r_ireturn X hf dX11_sees_15
  · have hf := ite_no hc1 hf
    refine r_aload_n X 0 dX11_sees_16 rfl rfl ?_
    refine r_getR X fl_11_26 k_X_0_2 dX11_sees_17 ?_
    refine r_iload_n X 1 dX11_sees_20 rfl rfl ?_
    obtain ⟨q3, hq3, hf⟩ := bd_some hf
    refine r_callVI X (As := [mI x1]) (st := []) (as := fun ad => [.ref (ad 11), mI x1]) (c_Plan_hasJudge hq3) rfl yw_X7_hasJudge yv_X7_hasJudge ml_RX11_168 o_X_11 rfl rfl ⟨rfl, rfl⟩ ⟨Nat.le_of_ble_eq_true rfl, Nat.le_of_ble_eq_true rfl⟩ rfl rfl (Nat.le_of_ble_eq_true rfl) dX11_sees_21 ?_
    refine r_if_eq (tgt := 38) X dX11_sees_24 (by decide) (fun hc4 => ?_) (fun hc4 => ?_)
    · have hf := ite_yes hc4 hf
      refine r_perm (lv2 := [(0, .ref (ad 0))]) [0] rfl ?_
      exact b_H_sees_38_ok X  hf
    · have hf := ite_no hc4 hf
      refine r_aload_n X 0 dX11_sees_27 rfl rfl ?_
      refine r_getR X fl_11_26 k_X_0_2 dX11_sees_28 ?_
      refine r_iload_n X 2 dX11_sees_31 rfl rfl ?_
      obtain ⟨q5, hq5, hf⟩ := bd_some hf
      refine r_callVI X (As := [mI x2]) (st := []) (as := fun ad => [.ref (ad 11), mI x2]) (c_Plan_hasBoard hq5) rfl yw_X7_hasBoard yv_X7_hasBoard ml_RX11_171 o_X_11 rfl rfl ⟨rfl, rfl⟩ ⟨Nat.le_of_ble_eq_true rfl, Nat.le_of_ble_eq_true rfl⟩ rfl rfl (Nat.le_of_ble_eq_true rfl) dX11_sees_32 ?_
      refine r_if_ne (tgt := 44) X dX11_sees_35 (by decide) (fun hc6 => ?_) (fun hc6 => ?_)
      · have hf := ite_yes hc6 hf
        refine r_perm (lv2 := [(0, .ref (ad 0))]) [0] rfl ?_
        exact b_H_sees_38_ok X  hf
      · have hf := ite_no hc6 hf
        refine r_aload_n X 0 dX11_sees_44 rfl rfl ?_
        refine r_aload_n X 0 dX11_sees_45 rfl rfl ?_
        refine r_getR X fl_11_26 k_X_0_2 dX11_sees_46 ?_
        refine r_getR X fl_11_174 k_X_11_7 dX11_sees_49 ?_
        refine r_iload_n X 2 dX11_sees_52 rfl rfl ?_
        obtain ⟨hg7, hf⟩ := gd_some hf
        refine r_iald X a_X_14 hg7 dX11_sees_53 ?_
        refine r_iload_n X 1 dX11_sees_54 rfl rfl ?_
        refine r_ishr X dX11_sees_55 ?_
        refine r_iconst X dX11_sees_56 ?_
        refine r_iand X dX11_sees_57 ?_
        obtain ⟨q8, hq8, hf⟩ := bd_some hf
        refine r_callVI X (As := [mI (andI (shrI (q5.2 14 (ix x2)) x1) 1)]) (st := []) (as := fun ad => [.ref (ad 0), mI (andI (shrI (q5.2 14 (ix x2)) x1) 1)]) (c_H_answer hq8) rfl yw_X11_answer yv_X11_answer ml_RX11_111 o_X_0 rfl rfl ⟨rfl, rfl⟩ ⟨Nat.le_of_ble_eq_true rfl, Nat.le_of_ble_eq_true rfl⟩ rfl rfl (Nat.le_of_ble_eq_true rfl) dX11_sees_58 ?_
        exact r_ireturn X hf dX11_sees_61
set_option maxRecDepth 100000 in
set_option maxHeartbeats 4000000 in
theorem c_H_holds {l : Launch} {sg : St} {x1 : Int} {q : Int × St} (hf : f_H_holds  sg x1 = some q) : MI l shX yX11_holds cX11_holds 2 (some .int) rm_H_holds (fun ad => [.ref (ad 0), mI x1]) sg q.2 q.1 := by
  refine mk_i (by decide) (fun _ => Nat.le_of_ble_eq_true rfl) (fun p e s m args below meth c D cy ad X => ?_)
  have X : CX p s m args meth c cX11_holds RX11 2 (some .int) D shX cy ad (aw shX ad) := X
  refine r_perm (lv2 := [(0, .ref (ad 0)), (1, mI x1)]) [0, 1] rfl ?_
  refine r_aload_n X 0 dX11_holds_0 rfl rfl ?_
  refine r_getR X fl_11_26 k_X_0_2 dX11_holds_1 ?_
  refine r_getI X fl_11_164 k_X_11_0 dX11_holds_4 ?_
  refine r_if_ne (tgt := 16) X dX11_holds_7 (by decide) (fun hc1 => ?_) (fun hc1 => ?_)
  · have hf := ite_yes hc1 hf
    refine r_aload_n X 0 dX11_holds_10 rfl rfl ?_
    refine r_iconst X dX11_holds_11 ?_
    obtain ⟨q2, hq2, hf⟩ := bd_some hf
    refine r_callVI X (As := [mI 4]) (st := []) (as := fun ad => [.ref (ad 0), mI 4]) (c_H_none hq2) rfl yw_X11_none yv_X11_none ml_RX11_100 o_X_0 rfl rfl ⟨rfl, rfl⟩ ⟨Nat.le_of_ble_eq_true rfl, Nat.le_of_ble_eq_true rfl⟩ rfl rfl (Nat.le_of_ble_eq_true rfl) dX11_holds_12 ?_
    exact r_ireturn X hf dX11_holds_15
  · have hf := ite_no hc1 hf
    refine r_aload_n X 0 dX11_holds_16 rfl rfl ?_
    refine r_getR X fl_11_26 k_X_0_2 dX11_holds_17 ?_
    refine r_iload_n X 1 dX11_holds_20 rfl rfl ?_
    obtain ⟨q3, hq3, hf⟩ := bd_some hf
    refine r_callVI X (As := [mI x1]) (st := []) (as := fun ad => [.ref (ad 11), mI x1]) (c_Plan_hasBoard hq3) rfl yw_X7_hasBoard yv_X7_hasBoard ml_RX11_171 o_X_11 rfl rfl ⟨rfl, rfl⟩ ⟨Nat.le_of_ble_eq_true rfl, Nat.le_of_ble_eq_true rfl⟩ rfl rfl (Nat.le_of_ble_eq_true rfl) dX11_holds_21 ?_
    refine r_if_ne (tgt := 33) X dX11_holds_24 (by decide) (fun hc4 => ?_) (fun hc4 => ?_)
    · have hf := ite_yes hc4 hf
      refine r_aload_n X 0 dX11_holds_27 rfl rfl ?_
      refine r_iconst X dX11_holds_28 ?_
      obtain ⟨q5, hq5, hf⟩ := bd_some hf
      refine r_callVI X (As := [mI 1]) (st := []) (as := fun ad => [.ref (ad 0), mI 1]) (c_H_none hq5) rfl yw_X11_none yv_X11_none ml_RX11_100 o_X_0 rfl rfl ⟨rfl, rfl⟩ ⟨Nat.le_of_ble_eq_true rfl, Nat.le_of_ble_eq_true rfl⟩ rfl rfl (Nat.le_of_ble_eq_true rfl) dX11_holds_29 ?_
      exact r_ireturn X hf dX11_holds_32
    · have hf := ite_no hc4 hf
      refine r_aload_n X 0 dX11_holds_33 rfl rfl ?_
      refine r_aload_n X 0 dX11_holds_34 rfl rfl ?_
      refine r_getR X fl_11_26 k_X_0_2 dX11_holds_35 ?_
      refine r_getI X fl_11_178 k_X_11_4 dX11_holds_38 ?_
      refine r_iload_n X 1 dX11_holds_41 rfl rfl ?_
      refine r_ishr X dX11_holds_42 ?_
      refine r_iconst X dX11_holds_43 ?_
      refine r_iand X dX11_holds_44 ?_
      obtain ⟨q6, hq6, hf⟩ := bd_some hf
      refine r_callVI X (As := [mI (andI (shrI (q3.2 11 4) x1) 1)]) (st := []) (as := fun ad => [.ref (ad 0), mI (andI (shrI (q3.2 11 4) x1) 1)]) (c_H_answer hq6) rfl yw_X11_answer yv_X11_answer ml_RX11_111 o_X_0 rfl rfl ⟨rfl, rfl⟩ ⟨Nat.le_of_ble_eq_true rfl, Nat.le_of_ble_eq_true rfl⟩ rfl rfl (Nat.le_of_ble_eq_true rfl) dX11_holds_45 ?_
      exact r_ireturn X hf dX11_holds_48
set_option maxRecDepth 100000 in
set_option maxHeartbeats 4000000 in
theorem b_H_mark_46_ok {p : Program} {l : Launch} {e : Env} {s : State} {m : MethodId} {args : Array Value} {below : List Frame} {meth : Method} {c : Code} {D : va_G} {cy : Nat → ClassId} {ad : Nat → Nat} (X : CX p s m args meth c cX11_mark RX11 5 (some .int) D shX cy ad (aw shX ad)) {F : Nat} {q : Int × St} {sg : St} (hf : b_H_mark_46  F  sg  = some q) : GG p l e rm_H_mark s m args below meth c (QI D shX cy ad below args s q) D shX cy ad (aw shX ad) 5 46 [(0, .ref (ad 0))] [] sg := by
  refine r_aload_n X 0 dX11_mark_46 rfl rfl ?_
  refine r_iconst X dX11_mark_47 ?_
  obtain ⟨q1, hq1, hf⟩ := bd_some hf
  refine r_callVI X (As := [mI 2]) (st := []) (as := fun ad => [.ref (ad 0), mI 2]) (c_H_none hq1) rfl yw_X11_none yv_X11_none ml_RX11_100 o_X_0 rfl rfl ⟨rfl, rfl⟩ ⟨Nat.le_of_ble_eq_true rfl, Nat.le_of_ble_eq_true rfl⟩ rfl rfl (Nat.le_of_ble_eq_true rfl) dX11_mark_48 ?_
  exact r_ireturn X hf dX11_mark_51
set_option maxRecDepth 100000 in
set_option maxHeartbeats 4000000 in
theorem b_H_mark_22_ok {p : Program} {l : Launch} {e : Env} {s : State} {m : MethodId} {args : Array Value} {below : List Frame} {meth : Method} {c : Code} {D : va_G} {cy : Nat → ClassId} {ad : Nat → Nat} (X : CX p s m args meth c cX11_mark RX11 5 (some .int) D shX cy ad (aw shX ad)) {F : Nat} {q : Int × St} {sg : St} (hf : b_H_mark_22  F  sg  = some q) : GG p l e rm_H_mark s m args below meth c (QI D shX cy ad below args s q) D shX cy ad (aw shX ad) 5 22 [(0, .ref (ad 0))] [] sg := by
  refine r_aload_n X 0 dX11_mark_22 rfl rfl ?_
  refine r_iconst X dX11_mark_23 ?_
  obtain ⟨q1, hq1, hf⟩ := bd_some hf
  refine r_callVI X (As := [mI 1]) (st := []) (as := fun ad => [.ref (ad 0), mI 1]) (c_H_none hq1) rfl yw_X11_none yv_X11_none ml_RX11_100 o_X_0 rfl rfl ⟨rfl, rfl⟩ ⟨Nat.le_of_ble_eq_true rfl, Nat.le_of_ble_eq_true rfl⟩ rfl rfl (Nat.le_of_ble_eq_true rfl) dX11_mark_24 ?_
  exact r_ireturn X hf dX11_mark_27
set_option maxRecDepth 100000 in
set_option maxHeartbeats 4000000 in
theorem c_H_mark {l : Launch} {sg : St} {x1 x2 x3 x4 : Int} {q : Int × St} (hf : f_H_mark  sg x1 x2 x3 x4 = some q) : MI l shX yX11_mark cX11_mark 5 (some .int) rm_H_mark (fun ad => [.ref (ad 0), mI x1, mI x2, mI x3, mI x4]) sg q.2 q.1 := by
  refine mk_i (by decide) (fun _ => Nat.le_of_ble_eq_true rfl) (fun p e s m args below meth c D cy ad X => ?_)
  have X : CX p s m args meth c cX11_mark RX11 5 (some .int) D shX cy ad (aw shX ad) := X
  refine r_perm (lv2 := [(0, .ref (ad 0)), (1, mI x1), (2, mI x2), (3, mI x3), (4, mI x4)]) [0, 1, 2, 3, 4] rfl ?_
  refine r_aload_n X 0 dX11_mark_0 rfl rfl ?_
  refine r_getR X fl_11_19 k_X_0_1 dX11_mark_1 ?_
  refine r_iload_n X 1 dX11_mark_4 rfl rfl ?_
  obtain ⟨q1, hq1, hf⟩ := bd_some hf
  refine r_callVI X (As := [mI x1]) (st := []) (as := fun ad => [.ref (ad 7), mI x1]) (c_Judges_has hq1) rfl yw_X4_has yv_X4_has ml_RX11_135 o_X_7 rfl rfl ⟨rfl, rfl⟩ ⟨Nat.le_of_ble_eq_true rfl, Nat.le_of_ble_eq_true rfl⟩ rfl rfl (Nat.le_of_ble_eq_true rfl) dX11_mark_5 ?_
  refine r_if_eq (tgt := 22) X dX11_mark_8 (by decide) (fun hc2 => ?_) (fun hc2 => ?_)
  · have hf := ite_yes hc2 hf
    refine r_perm (lv2 := [(0, .ref (ad 0))]) [0] rfl ?_
    exact b_H_mark_22_ok X  hf
  · have hf := ite_no hc2 hf
    refine r_aload_n X 0 dX11_mark_11 rfl rfl ?_
    refine r_getR X fl_11_10 k_X_0_0 dX11_mark_12 ?_
    refine r_iload_n X 2 dX11_mark_15 rfl rfl ?_
    obtain ⟨q3, hq3, hf⟩ := bd_some hf
    refine r_callVI X (As := [mI x2]) (st := []) (as := fun ad => [.ref (ad 1), mI x2]) (c_Boards_has hq3) rfl yw_X0_has yv_X0_has ml_RX11_118 o_X_1 rfl rfl ⟨rfl, rfl⟩ ⟨Nat.le_of_ble_eq_true rfl, Nat.le_of_ble_eq_true rfl⟩ rfl rfl (Nat.le_of_ble_eq_true rfl) dX11_mark_16 ?_
    refine r_if_ne (tgt := 28) X dX11_mark_19 (by decide) (fun hc4 => ?_) (fun hc4 => ?_)
    · have hf := ite_yes hc4 hf
      refine r_perm (lv2 := [(0, .ref (ad 0))]) [0] rfl ?_
      exact b_H_mark_22_ok X  hf
    · have hf := ite_no hc4 hf
      refine r_iload_n X 3 dX11_mark_28 rfl rfl ?_
      refine r_iconst X dX11_mark_29 ?_
      refine r_bipush X dX11_mark_30 (by decide) ?_
      obtain ⟨q5, hq5, hf⟩ := bd_some hf
      refine r_callSI X (As := [mI x3, mI 0, mI 100]) (st := []) (as := fun ad => [mI x3, mI 0, mI 100]) (c_H_within hq5) rfl yw_X11_within ys_X11_within ml_RX11_96 ⟨rfl, rfl⟩ ⟨Nat.le_of_ble_eq_true rfl, Nat.le_of_ble_eq_true rfl⟩ rfl rfl (Nat.le_of_ble_eq_true rfl) dX11_mark_32 ?_
      refine r_if_eq (tgt := 46) X dX11_mark_35 (by decide) (fun hc6 => ?_) (fun hc6 => ?_)
      · have hf := ite_yes hc6 hf
        refine r_perm (lv2 := [(0, .ref (ad 0))]) [0] rfl ?_
        exact b_H_mark_46_ok X  hf
      · have hf := ite_no hc6 hf
        refine r_iload X 4 dX11_mark_38 rfl ?_
        obtain ⟨q7, hq7, hf⟩ := bd_some hf
        refine r_callSI X (As := [mI x4]) (st := []) (as := fun ad => [mI x4]) (c_H_isDay hq7) rfl yw_X11_isDay ys_X11_isDay ml_RX11_181 ⟨rfl, rfl⟩ ⟨Nat.le_of_ble_eq_true rfl, Nat.le_of_ble_eq_true rfl⟩ rfl rfl (Nat.le_of_ble_eq_true rfl) dX11_mark_40 ?_
        refine r_if_ne (tgt := 52) X dX11_mark_43 (by decide) (fun hc8 => ?_) (fun hc8 => ?_)
        · have hf := ite_yes hc8 hf
          refine r_perm (lv2 := [(0, .ref (ad 0))]) [0] rfl ?_
          exact b_H_mark_46_ok X  hf
        · have hf := ite_no hc8 hf
          refine r_aload_n X 0 dX11_mark_52 rfl rfl ?_
          refine r_getR X fl_11_33 k_X_0_3 dX11_mark_53 ?_
          refine r_getI X fl_11_184 k_X_19_0 dX11_mark_56 ?_
          refine r_sipush X dX11_mark_59 (by decide) ?_
          refine r_icmp_lt (tgt := 71) X dX11_mark_62 (by decide) (fun hc9 => ?_) (fun hc9 => ?_)
          · have hf := ite_yes hc9 hf
            refine r_aload_n X 0 dX11_mark_71 rfl rfl ?_
            refine r_aload_n X 0 dX11_mark_72 rfl rfl ?_
            refine r_getR X fl_11_33 k_X_0_3 dX11_mark_73 ?_
            refine r_iload_n X 1 dX11_mark_76 rfl rfl ?_
            refine r_iload_n X 2 dX11_mark_77 rfl rfl ?_
            refine r_iload_n X 3 dX11_mark_78 rfl rfl ?_
            refine r_iload X 4 dX11_mark_79 rfl ?_
            obtain ⟨q11, hq11, hf⟩ := bd_some hf
            refine r_callVI X (As := [mI x1, mI x2, mI x3, mI x4]) (st := [.ref (ad 0)]) (as := fun ad => [.ref (ad 19), mI x1, mI x2, mI x3, mI x4]) (c_Marks_add hq11) rfl yw_X6_add yv_X6_add ml_RX11_185 o_X_19 rfl rfl ⟨rfl, rfl⟩ ⟨Nat.le_of_ble_eq_true rfl, Nat.le_of_ble_eq_true rfl⟩ rfl rfl (Nat.le_of_ble_eq_true rfl) dX11_mark_81 ?_
            obtain ⟨q12, hq12, hf⟩ := bd_some hf
            refine r_callVI X (As := [mI q11.1]) (st := []) (as := fun ad => [.ref (ad 0), mI q11.1]) (c_H_answer hq12) rfl yw_X11_answer yv_X11_answer ml_RX11_111 o_X_0 rfl rfl ⟨rfl, rfl⟩ ⟨Nat.le_of_ble_eq_true rfl, Nat.le_of_ble_eq_true rfl⟩ rfl rfl (Nat.le_of_ble_eq_true rfl) dX11_mark_84 ?_
            exact r_ireturn X hf dX11_mark_87
          · have hf := ite_no hc9 hf
            refine r_aload_n X 0 dX11_mark_65 rfl rfl ?_
            refine r_iconst X dX11_mark_66 ?_
            obtain ⟨q10, hq10, hf⟩ := bd_some hf
            refine r_callVI X (As := [mI 3]) (st := []) (as := fun ad => [.ref (ad 0), mI 3]) (c_H_none hq10) rfl yw_X11_none yv_X11_none ml_RX11_100 o_X_0 rfl rfl ⟨rfl, rfl⟩ ⟨Nat.le_of_ble_eq_true rfl, Nat.le_of_ble_eq_true rfl⟩ rfl rfl (Nat.le_of_ble_eq_true rfl) dX11_mark_67 ?_
            exact r_ireturn X hf dX11_mark_70
set_option maxRecDepth 100000 in
set_option maxHeartbeats 4000000 in
theorem c_H_lose {l : Launch} {sg : St} {x1 x2 : Int} {q : Int × St} (hf : f_H_lose  sg x1 x2 = some q) : MI l shX yX11_lose cX11_lose 3 (some .boolean) rm_H_lose (fun ad => [.ref (ad 0), mI x1, mI x2]) sg q.2 q.1 := by
  refine mk_i (by decide) (fun _ => Nat.le_of_ble_eq_true rfl) (fun p e s m args below meth c D cy ad X => ?_)
  have X : CX p s m args meth c cX11_lose RX11 3 (some .boolean) D shX cy ad (aw shX ad) := X
  refine r_perm (lv2 := [(0, .ref (ad 0)), (1, mI x1), (2, mI x2)]) [0, 1, 2] rfl ?_
  refine r_aload_n X 0 dX11_lose_0 rfl rfl ?_
  refine r_getR X fl_11_33 k_X_0_3 dX11_lose_1 ?_
  refine r_iload_n X 1 dX11_lose_4 rfl rfl ?_
  obtain ⟨q1, hq1, hf⟩ := bd_some hf
  refine r_callVI X (As := [mI x1]) (st := []) (as := fun ad => [.ref (ad 19), mI x1]) (c_Marks_has hq1) rfl yw_X6_has yv_X6_has ml_RX11_188 o_X_19 rfl rfl ⟨rfl, rfl⟩ ⟨Nat.le_of_ble_eq_true rfl, Nat.le_of_ble_eq_true rfl⟩ rfl rfl (Nat.le_of_ble_eq_true rfl) dX11_lose_5 ?_
  refine r_if_ne (tgt := 17) X dX11_lose_8 (by decide) (fun hc2 => ?_) (fun hc2 => ?_)
  · have hf := ite_yes hc2 hf
    refine r_aload_n X 0 dX11_lose_11 rfl rfl ?_
    refine r_iconst X dX11_lose_12 ?_
    obtain ⟨q3, hq3, hf⟩ := bd_some hf
    refine r_callVI X (As := [mI 1]) (st := []) (as := fun ad => [.ref (ad 0), mI 1]) (c_H_no hq3) rfl yw_X11_no yv_X11_no ml_RX11_140 o_X_0 rfl rfl ⟨rfl, rfl⟩ ⟨Nat.le_of_ble_eq_true rfl, Nat.le_of_ble_eq_true rfl⟩ rfl rfl (Nat.le_of_ble_eq_true rfl) dX11_lose_13 ?_
    obtain ⟨hz4, hf⟩ := gd_some hf
    exact r_zreturn X hf (zn_of hz4) dX11_lose_16
  · have hf := ite_no hc2 hf
    refine r_iload_n X 2 dX11_lose_17 rfl rfl ?_
    obtain ⟨q5, hq5, hf⟩ := bd_some hf
    refine r_callSI X (As := [mI x2]) (st := []) (as := fun ad => [mI x2]) (c_H_isDay hq5) rfl yw_X11_isDay ys_X11_isDay ml_RX11_181 ⟨rfl, rfl⟩ ⟨Nat.le_of_ble_eq_true rfl, Nat.le_of_ble_eq_true rfl⟩ rfl rfl (Nat.le_of_ble_eq_true rfl) dX11_lose_18 ?_
    refine r_if_ne (tgt := 30) X dX11_lose_21 (by decide) (fun hc6 => ?_) (fun hc6 => ?_)
    · have hf := ite_yes hc6 hf
      refine r_aload_n X 0 dX11_lose_24 rfl rfl ?_
      refine r_iconst X dX11_lose_25 ?_
      obtain ⟨q7, hq7, hf⟩ := bd_some hf
      refine r_callVI X (As := [mI 2]) (st := []) (as := fun ad => [.ref (ad 0), mI 2]) (c_H_no hq7) rfl yw_X11_no yv_X11_no ml_RX11_140 o_X_0 rfl rfl ⟨rfl, rfl⟩ ⟨Nat.le_of_ble_eq_true rfl, Nat.le_of_ble_eq_true rfl⟩ rfl rfl (Nat.le_of_ble_eq_true rfl) dX11_lose_26 ?_
      obtain ⟨hz8, hf⟩ := gd_some hf
      exact r_zreturn X hf (zn_of hz8) dX11_lose_29
    · have hf := ite_no hc6 hf
      refine r_aload_n X 0 dX11_lose_30 rfl rfl ?_
      refine r_getR X fl_11_33 k_X_0_3 dX11_lose_31 ?_
      refine r_getR X fl_11_189 k_X_19_5 dX11_lose_34 ?_
      refine r_iload_n X 1 dX11_lose_37 rfl rfl ?_
      obtain ⟨hg9, hf⟩ := gd_some hf
      refine r_iald X a_X_24 hg9 dX11_lose_38 ?_
      refine r_iconst X dX11_lose_39 ?_
      refine r_icmp_eq (tgt := 49) X dX11_lose_40 (by decide) (fun hc10 => ?_) (fun hc10 => ?_)
      · have hf := ite_yes hc10 hf
        refine r_aload_n X 0 dX11_lose_49 rfl rfl ?_
        refine r_getR X fl_11_33 k_X_0_3 dX11_lose_50 ?_
        refine r_getR X fl_11_189 k_X_19_5 dX11_lose_53 ?_
        refine r_iload_n X 1 dX11_lose_56 rfl rfl ?_
        refine r_iload_n X 2 dX11_lose_57 rfl rfl ?_
        obtain ⟨hg13, hf⟩ := gd_some hf
        refine r_iast X a_X_24 hg13 dX11_lose_58 ?_
        refine r_aload_n X 0 dX11_lose_59 rfl rfl ?_
        obtain ⟨q15, hq15, hf⟩ := bd_some hf
        refine r_callVI X (As := []) (st := []) (as := fun ad => [.ref (ad 0)]) (c_H_yes hq15) rfl yw_X11_yes yv_X11_yes ml_RX11_143 o_X_0 rfl rfl ⟨rfl, rfl⟩ ⟨Nat.le_of_ble_eq_true rfl, Nat.le_of_ble_eq_true rfl⟩ rfl rfl (Nat.le_of_ble_eq_true rfl) dX11_lose_60 ?_
        obtain ⟨hz16, hf⟩ := gd_some hf
        exact r_zreturn X hf (zn_of hz16) dX11_lose_63
      · have hf := ite_no hc10 hf
        refine r_aload_n X 0 dX11_lose_43 rfl rfl ?_
        refine r_iconst X dX11_lose_44 ?_
        obtain ⟨q11, hq11, hf⟩ := bd_some hf
        refine r_callVI X (As := [mI 5]) (st := []) (as := fun ad => [.ref (ad 0), mI 5]) (c_H_no hq11) rfl yw_X11_no yv_X11_no ml_RX11_140 o_X_0 rfl rfl ⟨rfl, rfl⟩ ⟨Nat.le_of_ble_eq_true rfl, Nat.le_of_ble_eq_true rfl⟩ rfl rfl (Nat.le_of_ble_eq_true rfl) dX11_lose_45 ?_
        obtain ⟨hz12, hf⟩ := gd_some hf
        exact r_zreturn X hf (zn_of hz12) dX11_lose_48
set_option maxRecDepth 100000 in
set_option maxHeartbeats 4000000 in
theorem b_H_hall_31_ok {p : Program} {l : Launch} {e : Env} {s : State} {m : MethodId} {args : Array Value} {below : List Frame} {meth : Method} {c : Code} {D : va_G} {cy : Nat → ClassId} {ad : Nat → Nat} (X : CX p s m args meth c cX11_hall RX11 4 (some .int) D shX cy ad (aw shX ad)) {F : Nat} {q : Int × St} {sg : St} (hf : b_H_hall_31  F  sg  = some q) : GG p l e rm_H_hall s m args below meth c (QI D shX cy ad below args s q) D shX cy ad (aw shX ad) 4 31 [(0, .ref (ad 0))] [] sg := by
  refine r_aload_n X 0 dX11_hall_31 rfl rfl ?_
  refine r_iconst X dX11_hall_32 ?_
  obtain ⟨q1, hq1, hf⟩ := bd_some hf
  refine r_callVI X (As := [mI 2]) (st := []) (as := fun ad => [.ref (ad 0), mI 2]) (c_H_none hq1) rfl yw_X11_none yv_X11_none ml_RX11_100 o_X_0 rfl rfl ⟨rfl, rfl⟩ ⟨Nat.le_of_ble_eq_true rfl, Nat.le_of_ble_eq_true rfl⟩ rfl rfl (Nat.le_of_ble_eq_true rfl) dX11_hall_33 ?_
  exact r_ireturn X hf dX11_hall_36
set_option maxRecDepth 100000 in
set_option maxHeartbeats 4000000 in
theorem c_H_hall {l : Launch} {sg : St} {x1 x2 x3 : Int} {q : Int × St} (hf : f_H_hall  sg x1 x2 x3 = some q) : MI l shX yX11_hall cX11_hall 4 (some .int) rm_H_hall (fun ad => [.ref (ad 0), mI x1, mI x2, mI x3]) sg q.2 q.1 := by
  refine mk_i (by decide) (fun _ => Nat.le_of_ble_eq_true rfl) (fun p e s m args below meth c D cy ad X => ?_)
  have X : CX p s m args meth c cX11_hall RX11 4 (some .int) D shX cy ad (aw shX ad) := X
  refine r_perm (lv2 := [(0, .ref (ad 0)), (1, mI x1), (2, mI x2), (3, mI x3)]) [0, 1, 2, 3] rfl ?_
  refine r_iload_n X 1 dX11_hall_0 rfl rfl ?_
  refine r_iconst X dX11_hall_1 ?_
  refine r_bipush X dX11_hall_2 (by decide) ?_
  obtain ⟨q1, hq1, hf⟩ := bd_some hf
  refine r_callSI X (As := [mI x1, mI 0, mI 24]) (st := []) (as := fun ad => [mI x1, mI 0, mI 24]) (c_H_within hq1) rfl yw_X11_within ys_X11_within ml_RX11_96 ⟨rfl, rfl⟩ ⟨Nat.le_of_ble_eq_true rfl, Nat.le_of_ble_eq_true rfl⟩ rfl rfl (Nat.le_of_ble_eq_true rfl) dX11_hall_4 ?_
  refine r_if_eq (tgt := 31) X dX11_hall_7 (by decide) (fun hc2 => ?_) (fun hc2 => ?_)
  · have hf := ite_yes hc2 hf
    refine r_perm (lv2 := [(0, .ref (ad 0))]) [0] rfl ?_
    exact b_H_hall_31_ok X  hf
  · have hf := ite_no hc2 hf
    refine r_iload_n X 2 dX11_hall_10 rfl rfl ?_
    refine r_iconst X dX11_hall_11 ?_
    refine r_sipush X dX11_hall_12 (by decide) ?_
    obtain ⟨q3, hq3, hf⟩ := bd_some hf
    refine r_callSI X (As := [mI x2, mI 0, mI 999]) (st := []) (as := fun ad => [mI x2, mI 0, mI 999]) (c_H_within hq3) rfl yw_X11_within ys_X11_within ml_RX11_96 ⟨rfl, rfl⟩ ⟨Nat.le_of_ble_eq_true rfl, Nat.le_of_ble_eq_true rfl⟩ rfl rfl (Nat.le_of_ble_eq_true rfl) dX11_hall_15 ?_
    refine r_if_eq (tgt := 31) X dX11_hall_18 (by decide) (fun hc4 => ?_) (fun hc4 => ?_)
    · have hf := ite_yes hc4 hf
      refine r_perm (lv2 := [(0, .ref (ad 0))]) [0] rfl ?_
      exact b_H_hall_31_ok X  hf
    · have hf := ite_no hc4 hf
      refine r_iload_n X 3 dX11_hall_21 rfl rfl ?_
      refine r_iconst X dX11_hall_22 ?_
      refine r_bipush X dX11_hall_23 (by decide) ?_
      obtain ⟨q5, hq5, hf⟩ := bd_some hf
      refine r_callSI X (As := [mI x3, mI 0, mI 24]) (st := []) (as := fun ad => [mI x3, mI 0, mI 24]) (c_H_within hq5) rfl yw_X11_within ys_X11_within ml_RX11_96 ⟨rfl, rfl⟩ ⟨Nat.le_of_ble_eq_true rfl, Nat.le_of_ble_eq_true rfl⟩ rfl rfl (Nat.le_of_ble_eq_true rfl) dX11_hall_25 ?_
      refine r_if_ne (tgt := 37) X dX11_hall_28 (by decide) (fun hc6 => ?_) (fun hc6 => ?_)
      · have hf := ite_yes hc6 hf
        refine r_perm (lv2 := [(0, .ref (ad 0))]) [0] rfl ?_
        exact b_H_hall_31_ok X  hf
      · have hf := ite_no hc6 hf
        refine r_aload_n X 0 dX11_hall_37 rfl rfl ?_
        refine r_getR X fl_11_75 k_X_0_9 dX11_hall_38 ?_
        refine r_getI X fl_11_277 k_X_72_0 dX11_hall_41 ?_
        refine r_iconst X dX11_hall_44 ?_
        refine r_icmp_lt (tgt := 54) X dX11_hall_45 (by decide) (fun hc7 => ?_) (fun hc7 => ?_)
        · have hf := ite_yes hc7 hf
          refine r_aload_n X 0 dX11_hall_54 rfl rfl ?_
          refine r_aload_n X 0 dX11_hall_55 rfl rfl ?_
          refine r_getR X fl_11_75 k_X_0_9 dX11_hall_56 ?_
          refine r_iload_n X 1 dX11_hall_59 rfl rfl ?_
          refine r_iload_n X 2 dX11_hall_60 rfl rfl ?_
          refine r_iload_n X 3 dX11_hall_61 rfl rfl ?_
          obtain ⟨q9, hq9, hf⟩ := bd_some hf
          refine r_callVI X (As := [mI x1, mI x2, mI x3]) (st := [.ref (ad 0)]) (as := fun ad => [.ref (ad 72), mI x1, mI x2, mI x3]) (c_Halls_add hq9) rfl yw_X3_add yv_X3_add ml_RX11_278 o_X_72 rfl rfl ⟨rfl, rfl⟩ ⟨Nat.le_of_ble_eq_true rfl, Nat.le_of_ble_eq_true rfl⟩ rfl rfl (Nat.le_of_ble_eq_true rfl) dX11_hall_62 ?_
          obtain ⟨q10, hq10, hf⟩ := bd_some hf
          refine r_callVI X (As := [mI q9.1]) (st := []) (as := fun ad => [.ref (ad 0), mI q9.1]) (c_H_answer hq10) rfl yw_X11_answer yv_X11_answer ml_RX11_111 o_X_0 rfl rfl ⟨rfl, rfl⟩ ⟨Nat.le_of_ble_eq_true rfl, Nat.le_of_ble_eq_true rfl⟩ rfl rfl (Nat.le_of_ble_eq_true rfl) dX11_hall_65 ?_
          exact r_ireturn X hf dX11_hall_68
        · have hf := ite_no hc7 hf
          refine r_aload_n X 0 dX11_hall_48 rfl rfl ?_
          refine r_iconst X dX11_hall_49 ?_
          obtain ⟨q8, hq8, hf⟩ := bd_some hf
          refine r_callVI X (As := [mI 3]) (st := []) (as := fun ad => [.ref (ad 0), mI 3]) (c_H_none hq8) rfl yw_X11_none yv_X11_none ml_RX11_100 o_X_0 rfl rfl ⟨rfl, rfl⟩ ⟨Nat.le_of_ble_eq_true rfl, Nat.le_of_ble_eq_true rfl⟩ rfl rfl (Nat.le_of_ble_eq_true rfl) dX11_hall_50 ?_
          exact r_ireturn X hf dX11_hall_53
set_option maxRecDepth 100000 in
set_option maxHeartbeats 4000000 in
theorem c_H_clear {l : Launch} {sg : St} {q : Int × St} (hf : f_H_clear  sg  = some q) : MI l shX yX11_clear cX11_clear 1 (some .boolean) rm_H_clear (fun ad => [.ref (ad 0)]) sg q.2 q.1 := by
  refine mk_i (by decide) (fun _ => Nat.le_of_ble_eq_true rfl) (fun p e s m args below meth c D cy ad X => ?_)
  have X : CX p s m args meth c cX11_clear RX11 1 (some .boolean) D shX cy ad (aw shX ad) := X
  refine r_perm (lv2 := [(0, .ref (ad 0))]) [0] rfl ?_
  refine r_aload_n X 0 dX11_clear_0 rfl rfl ?_
  refine r_getR X fl_11_75 k_X_0_9 dX11_clear_1 ?_
  obtain ⟨q1, hq1, hf⟩ := bd_some hf
  refine r_callVV X (As := []) (st := []) (as := fun ad => [.ref (ad 72)]) (c_Halls_removeAll hq1) rfl yw_X3_removeAll yv_X3_removeAll ml_RX11_279 o_X_72 rfl rfl ⟨rfl, rfl⟩ ⟨Nat.le_of_ble_eq_true rfl, Nat.le_of_ble_eq_true rfl⟩ rfl rfl (Nat.le_of_ble_eq_true rfl) dX11_clear_4 ?_
  refine r_aload_n X 0 dX11_clear_7 rfl rfl ?_
  obtain ⟨q2, hq2, hf⟩ := bd_some hf
  refine r_callVI X (As := []) (st := []) (as := fun ad => [.ref (ad 0)]) (c_H_yes hq2) rfl yw_X11_yes yv_X11_yes ml_RX11_143 o_X_0 rfl rfl ⟨rfl, rfl⟩ ⟨Nat.le_of_ble_eq_true rfl, Nat.le_of_ble_eq_true rfl⟩ rfl rfl (Nat.le_of_ble_eq_true rfl) dX11_clear_8 ?_
  obtain ⟨hz3, hf⟩ := gd_some hf
  exact r_zreturn X hf (zn_of hz3) dX11_clear_11
set_option maxRecDepth 100000 in
set_option maxHeartbeats 4000000 in
theorem b_Giver_rank_7_ok {p : Program} {l : Launch} {e : Env} {s : State} {m : MethodId} {args : Array Value} {below : List Frame} {meth : Method} {c : Code} {D : va_G} {cy : Nat → ClassId} {ad : Nat → Nat} (X : CX p s m args meth c cX2_rank RX2 4 none D shX cy ad (aw shX ad)) {F : Nat} {kc : St → Int → Option (St)} {k44 : St → Option (St)} {q : St} (hkc : ∀ sg x3, kc sg x3 = some q → GG p l e rm_Giver_rank s m args below meth c (QV D shX cy ad below args s q) D shX cy ad (aw shX ad) 4 7 [(0, .ref (ad 43)), (1, .ref (ad 25)), (2, .ref (ad 29)), (3, mI x3)] [] sg) (hk44 : ∀ sg , k44 sg  = some q → GG p l e rm_Giver_rank s m args below meth c (QV D shX cy ad below args s q) D shX cy ad (aw shX ad) 4 44 [] [] sg) {sg : St} {x3 : Int} (hf : b_Giver_rank_7  F kc k44 sg x3 = some q) : GG p l e rm_Giver_rank s m args below meth c (QV D shX cy ad below args s q) D shX cy ad (aw shX ad) 4 7 [(0, .ref (ad 43)), (1, .ref (ad 25)), (2, .ref (ad 29)), (3, mI x3)] [] sg := by
  refine r_iload_n X 3 dX2_rank_7 rfl rfl ?_
  refine r_bipush X dX2_rank_8 (by decide) ?_
  refine r_icmp_ge (tgt := 44) X dX2_rank_10 (by decide) (fun hc1 => ?_) (fun hc1 => ?_)
  · have hf := ite_yes hc1 hf
    refine r_perm (lv2 := []) [] rfl ?_
    exact hk44 _ hf
  · have hf := ite_no hc1 hf
    refine r_aload_n X 1 dX2_rank_13 rfl rfl ?_
    refine r_iload_n X 3 dX2_rank_14 rfl rfl ?_
    obtain ⟨q2, hq2, hf⟩ := bd_some hf
    refine r_callVI X (As := [mI x3]) (st := []) (as := fun ad => [.ref (ad 25), mI x3]) (c_Known_marksOf hq2) rfl yw_X5_marksOf yv_X5_marksOf ml_RX2_33 o_X_25 rfl rfl ⟨rfl, rfl⟩ ⟨Nat.le_of_ble_eq_true rfl, Nat.le_of_ble_eq_true rfl⟩ rfl rfl (Nat.le_of_ble_eq_true rfl) dX2_rank_15 ?_
    refine r_if_le (tgt := 38) X dX2_rank_18 (by decide) (fun hc3 => ?_) (fun hc3 => ?_)
    · have hf := ite_yes hc3 hf
      refine r_iinc (lv2 := [(3, mI (x3 + 1)), (0, .ref (ad 43)), (1, .ref (ad 25)), (2, .ref (ad 29))]) X 3 dX2_rank_38 rfl (by decide) rfl ?_
      refine r_goto (tgt := 7) X dX2_rank_41 (by decide) ?_
      refine r_perm (lv2 := [(0, .ref (ad 43)), (1, .ref (ad 25)), (2, .ref (ad 29)), (3, mI (x3 + 1))]) [1, 2, 3, 0] rfl ?_
      exact hkc _ _ hf
    · have hf := ite_no hc3 hf
      refine r_aload_n X 2 dX2_rank_21 rfl rfl ?_
      refine r_aload_n X 1 dX2_rank_22 rfl rfl ?_
      refine r_iload_n X 3 dX2_rank_23 rfl rfl ?_
      refine r_aload_n X 0 dX2_rank_24 rfl rfl ?_
      refine r_getR X fl_2_17 k_X_43_2 dX2_rank_25 ?_
      refine r_iload_n X 3 dX2_rank_28 rfl rfl ?_
      obtain ⟨hg4, hf⟩ := gd_some hf
      refine r_aaldF X gi_r hg4 dX2_rank_29 ?_
      obtain ⟨q5, hq5, hf⟩ := bd_some hf
      refine r_callVV X (As := [.ref (ad 25), mI x3, .ref (ad (48 + ix x3))]) (st := []) (as := fun ad => [.ref (ad 29), .ref (ad 25), mI x3, .ref (ad (48 + ix x3))]) (c_Scale_rate (fr_i (inb_ix hg4)) hq5) rfl yw_X9_rate yv_X9_rate ml_RX2_39 o_X_29 rfl rfl ⟨rfl, rfl⟩ ⟨Nat.le_of_ble_eq_true rfl, Nat.le_of_ble_eq_true rfl⟩ rfl rfl (Nat.le_of_ble_eq_true rfl) dX2_rank_30 ?_
      refine r_aload_n X 0 dX2_rank_33 rfl rfl ?_
      refine r_iload_n X 3 dX2_rank_34 rfl rfl ?_
      obtain ⟨q6, hq6, hf⟩ := bd_some hf
      refine r_callVV X (As := [mI x3]) (st := []) (as := fun ad => [.ref (ad 43), mI x3]) (c_Giver_insert hq6) rfl yw_X2_insert yv_X2_insert ml_RX2_45 o_X_43 rfl rfl ⟨rfl, rfl⟩ ⟨Nat.le_of_ble_eq_true rfl, Nat.le_of_ble_eq_true rfl⟩ rfl rfl (Nat.le_of_ble_eq_true rfl) dX2_rank_35 ?_
      refine r_iinc (lv2 := [(3, mI (x3 + 1)), (0, .ref (ad 43)), (1, .ref (ad 25)), (2, .ref (ad 29))]) X 3 dX2_rank_38 rfl (by decide) rfl ?_
      refine r_goto (tgt := 7) X dX2_rank_41 (by decide) ?_
      refine r_perm (lv2 := [(0, .ref (ad 43)), (1, .ref (ad 25)), (2, .ref (ad 29)), (3, mI (x3 + 1))]) [1, 2, 3, 0] rfl ?_
      exact hkc _ _ hf
set_option maxRecDepth 100000 in
set_option maxHeartbeats 4000000 in
theorem l_Giver_rank_7_ok {p : Program} {l : Launch} {e : Env} {s : State} {m : MethodId} {args : Array Value} {below : List Frame} {meth : Method} {c : Code} {D : va_G} {cy : Nat → ClassId} {ad : Nat → Nat} (X : CX p s m args meth c cX2_rank RX2 4 none D shX cy ad (aw shX ad)) {F : Nat} {k44 : St → Option (St)} {q : St} (hk44 : ∀ sg , k44 sg  = some q → GG p l e rm_Giver_rank s m args below meth c (QV D shX cy ad below args s q) D shX cy ad (aw shX ad) 4 44 [] [] sg) : ∀ (n : Nat) (sg : St) (x3 : Int), l_Giver_rank_7  F k44 n sg x3 = some q → GG p l e rm_Giver_rank s m args below meth c (QV D shX cy ad below args s q) D shX cy ad (aw shX ad) 4 7 [(0, .ref (ad 43)), (1, .ref (ad 25)), (2, .ref (ad 29)), (3, mI x3)] [] sg := by
  intro n
  induction n with
  | zero => intro sg x3 h; cases h
  | succ n ih => exact fun sg x3 h => b_Giver_rank_7_ok X ih hk44 h
set_option maxRecDepth 100000 in
set_option maxHeartbeats 4000000 in
theorem c_Giver_rank {l : Launch} {F : Nat} {sg : St} {q : St} (hf : f_Giver_rank F  sg  = some q) : MV l shX yX2_rank cX2_rank 4 none rm_Giver_rank (fun ad => [.ref (ad 43), .ref (ad 25), .ref (ad 29)]) sg q := by
  refine mk_v (by decide) (fun _ => Nat.le_of_ble_eq_true rfl) (fun p e s m args below meth c D cy ad X => ?_)
  have X : CX p s m args meth c cX2_rank RX2 4 none D shX cy ad (aw shX ad) := X
  refine r_perm (lv2 := [(0, .ref (ad 43)), (1, .ref (ad 25)), (2, .ref (ad 29))]) [0, 1, 2] rfl ?_
  refine r_aload_n X 0 dX2_rank_0 rfl rfl ?_
  refine r_iconst X dX2_rank_1 ?_
  refine r_putI X fp_2_29 k_X_43_3 rfl rfl dX2_rank_2 ?_
  refine r_iconst X dX2_rank_5 ?_
  refine r_istore_n (lv2 := [(3, mI 0), (0, .ref (ad 43)), (1, .ref (ad 25)), (2, .ref (ad 29))]) X dX2_rank_6 rfl (by decide) rfl ?_
  refine r_perm (lv2 := [(0, .ref (ad 43)), (1, .ref (ad 25)), (2, .ref (ad 29)), (3, mI 0)]) [1, 2, 3, 0] rfl ?_
  refine l_Giver_rank_7_ok X ?_ F _ _ hf
  · intro s2  hf
    exact r_vreturn X hf dX2_rank_44
set_option maxRecDepth 100000 in
set_option maxHeartbeats 4000000 in
theorem b_Giver_giveOne_63_ok {p : Program} {l : Launch} {e : Env} {s : State} {m : MethodId} {args : Array Value} {below : List Frame} {meth : Method} {c : Code} {D : va_G} {cy : Nat → ClassId} {ad : Nat → Nat} (X : CX p s m args meth c cX2_giveOne RX2 8 none D shX cy ad (aw shX ad)) {cp : Nat} (hcp : PRc cp) {F : Nat} {kc : St → Int → Int → Option (St)} {k123 : St → Option (St)} {q : St} (hkc : ∀ sg x2 x5, kc sg x2 x5 = some q → GG p l e rm_Giver_giveOne s m args below meth c (QV D shX cy ad below args s q) D shX cy ad (aw shX ad) 8 8 [(0, .ref (ad 43)), (1, .ref (ad cp)), (2, mI x2), (3, .ref (ad 1)), (4, .ref (ad 25)), (5, mI x5)] [] sg) (hk123 : ∀ sg , k123 sg  = some q → GG p l e rm_Giver_giveOne s m args below meth c (QV D shX cy ad below args s q) D shX cy ad (aw shX ad) 8 123 [] [] sg) {sg : St} {x2 x5 x6 z0 : Int} (hf : b_Giver_giveOne_63 cp F kc k123 sg x2 x5 x6 z0 = some q) : GG p l e rm_Giver_giveOne s m args below meth c (QV D shX cy ad below args s q) D shX cy ad (aw shX ad) 8 63 [(0, .ref (ad 43)), (1, .ref (ad cp)), (2, mI x2), (3, .ref (ad 1)), (4, .ref (ad 25)), (5, mI x5), (6, mI x6)] [mI z0] sg := by
  refine r_istore (lv2 := [(7, mI z0), (0, .ref (ad 43)), (1, .ref (ad cp)), (2, mI x2), (3, .ref (ad 1)), (4, .ref (ad 25)), (5, mI x5), (6, mI x6)]) X dX2_giveOne_63 (by decide) rfl ?_
  refine r_iload X 0 dX2_giveOne_65 rfl ?_
  refine r_if_ne (tgt := 117) X dX2_giveOne_67 (by decide) (fun hc1 => ?_) (fun hc1 => ?_)
  · have hf := ite_yes hc1 hf
    refine r_aload_n X 2 dX2_giveOne_70 rfl rfl ?_
    refine r_iload_n X 3 dX2_giveOne_71 rfl rfl ?_
    refine r_aload_n X 4 dX2_giveOne_72 rfl rfl ?_
    refine r_iload X 7 dX2_giveOne_73 rfl ?_
    refine r_aload X 5 dX2_giveOne_75 rfl ?_
    refine r_iload X 7 dX2_giveOne_77 rfl ?_
    obtain ⟨q2, hq2, hf⟩ := bd_some hf
    refine r_callVI X (As := [mI x6]) (st := [mI x6, .ref (ad 1), mI x2, .ref (ad cp)]) (as := fun ad => [.ref (ad 25), mI x6]) (c_Known_marksOf hq2) rfl yw_X5_marksOf yv_X5_marksOf ml_RX2_33 o_X_25 rfl rfl ⟨rfl, rfl⟩ ⟨Nat.le_of_ble_eq_true rfl, Nat.le_of_ble_eq_true rfl⟩ rfl rfl (Nat.le_of_ble_eq_true rfl) dX2_giveOne_79 ?_
    obtain ⟨q3, hq3, hf⟩ := bd_some hf
    refine r_callVI X (As := [mI x2, .ref (ad 1), mI x6, mI q2.1]) (st := []) (as := fun ad => [.ref (ad cp), mI x2, .ref (ad 1), mI x6, mI q2.1]) (c_Prize_isWished hcp hq3) rfl yw_X8_isWished yv_X8_isWished ml_RX2_64 (pr_o hcp) rfl rfl ⟨rfl, rfl⟩ ⟨Nat.le_of_ble_eq_true rfl, Nat.le_of_ble_eq_true rfl⟩ rfl rfl (Nat.le_of_ble_eq_true rfl) dX2_giveOne_82 ?_
    refine r_if_eq (tgt := 117) X dX2_giveOne_85 (by decide) (fun hc4 => ?_) (fun hc4 => ?_)
    · have hf := ite_yes hc4 hf
      refine r_iinc (lv2 := [(5, mI (x5 + 1)), (7, mI z0), (0, .ref (ad 43)), (1, .ref (ad cp)), (2, mI x2), (3, .ref (ad 1)), (4, .ref (ad 25)), (6, mI x6)]) X 6 dX2_giveOne_117 rfl (by decide) rfl ?_
      refine r_goto (tgt := 8) X dX2_giveOne_120 (by decide) ?_
      refine r_perm (lv2 := [(0, .ref (ad 43)), (1, .ref (ad cp)), (2, mI x2), (3, .ref (ad 1)), (4, .ref (ad 25)), (5, mI (x5 + 1))]) [2, 3, 4, 5, 6, 0] rfl ?_
      exact hkc _ _ _ hf
    · have hf := ite_no hc4 hf
      refine r_aload_n X 1 dX2_giveOne_88 rfl rfl ?_
      refine r_getR X fl_2_24 k_X_43_5 dX2_giveOne_89 ?_
      refine r_iload X 7 dX2_giveOne_92 rfl ?_
      refine r_iconst X dX2_giveOne_94 ?_
      obtain ⟨hg5, hf⟩ := gd_some hf
      refine r_zast X a_X_47 hg5 dX2_giveOne_95 ?_
      refine r_aload_n X 1 dX2_giveOne_96 rfl rfl ?_
      refine r_getR X fl_2_9 k_X_43_1 dX2_giveOne_97 ?_
      refine r_aload_n X 1 dX2_giveOne_100 rfl rfl ?_
      refine r_getI X fl_2_53 k_X_43_0 dX2_giveOne_101 ?_
      refine r_iload X 7 dX2_giveOne_104 rfl ?_
      obtain ⟨hg7, hf⟩ := gd_some hf
      refine r_iast X a_X_44 hg7 dX2_giveOne_106 ?_
      refine r_aload_n X 1 dX2_giveOne_107 rfl rfl ?_
      refine r_dup X dX2_giveOne_108 rfl ?_
      refine r_getI X fl_2_53 k_X_43_0 dX2_giveOne_109 ?_
      refine r_iconst X dX2_giveOne_112 ?_
      refine r_iadd X dX2_giveOne_113 ?_
      refine r_putI X fp_2_53 k_X_43_0 rfl rfl dX2_giveOne_114 ?_
      refine r_iinc (lv2 := [(5, mI (x5 + 1)), (7, mI z0), (0, .ref (ad 43)), (1, .ref (ad cp)), (2, mI x2), (3, .ref (ad 1)), (4, .ref (ad 25)), (6, mI x6)]) X 6 dX2_giveOne_117 rfl (by decide) rfl ?_
      refine r_goto (tgt := 8) X dX2_giveOne_120 (by decide) ?_
      refine r_perm (lv2 := [(0, .ref (ad 43)), (1, .ref (ad cp)), (2, mI x2), (3, .ref (ad 1)), (4, .ref (ad 25)), (5, mI (x5 + 1))]) [2, 3, 4, 5, 6, 0] rfl ?_
      exact hkc _ _ _ hf
  · have hf := ite_no hc1 hf
    refine r_iinc (lv2 := [(5, mI (x5 + 1)), (7, mI z0), (0, .ref (ad 43)), (1, .ref (ad cp)), (2, mI x2), (3, .ref (ad 1)), (4, .ref (ad 25)), (6, mI x6)]) X 6 dX2_giveOne_117 rfl (by decide) rfl ?_
    refine r_goto (tgt := 8) X dX2_giveOne_120 (by decide) ?_
    refine r_perm (lv2 := [(0, .ref (ad 43)), (1, .ref (ad cp)), (2, mI x2), (3, .ref (ad 1)), (4, .ref (ad 25)), (5, mI (x5 + 1))]) [2, 3, 4, 5, 6, 0] rfl ?_
    exact hkc _ _ _ hf
set_option maxRecDepth 100000 in
set_option maxHeartbeats 4000000 in
theorem b_Giver_giveOne_8_ok {p : Program} {l : Launch} {e : Env} {s : State} {m : MethodId} {args : Array Value} {below : List Frame} {meth : Method} {c : Code} {D : va_G} {cy : Nat → ClassId} {ad : Nat → Nat} (X : CX p s m args meth c cX2_giveOne RX2 8 none D shX cy ad (aw shX ad)) {cp : Nat} (hcp : PRc cp) {F : Nat} {kc : St → Int → Int → Option (St)} {k123 : St → Option (St)} {q : St} (hkc : ∀ sg x2 x5, kc sg x2 x5 = some q → GG p l e rm_Giver_giveOne s m args below meth c (QV D shX cy ad below args s q) D shX cy ad (aw shX ad) 8 8 [(0, .ref (ad 43)), (1, .ref (ad cp)), (2, mI x2), (3, .ref (ad 1)), (4, .ref (ad 25)), (5, mI x5)] [] sg) (hk123 : ∀ sg , k123 sg  = some q → GG p l e rm_Giver_giveOne s m args below meth c (QV D shX cy ad below args s q) D shX cy ad (aw shX ad) 8 123 [] [] sg) {sg : St} {x2 x5 : Int} (hf : b_Giver_giveOne_8 cp F kc k123 sg x2 x5 = some q) : GG p l e rm_Giver_giveOne s m args below meth c (QV D shX cy ad below args s q) D shX cy ad (aw shX ad) 8 8 [(0, .ref (ad 43)), (1, .ref (ad cp)), (2, mI x2), (3, .ref (ad 1)), (4, .ref (ad 25)), (5, mI x5)] [] sg := by
  refine r_iload X 5 dX2_giveOne_8 rfl ?_
  refine r_aload_n X 0 dX2_giveOne_10 rfl rfl ?_
  refine r_getI X fl_2_29 k_X_43_3 dX2_giveOne_11 ?_
  refine r_icmp_ge (tgt := 123) X dX2_giveOne_14 (by decide) (fun hc1 => ?_) (fun hc1 => ?_)
  · have hf := ite_yes hc1 hf
    refine r_perm (lv2 := []) [] rfl ?_
    exact hk123 _ hf
  · have hf := ite_no hc1 hf
    refine r_aload_n X 0 dX2_giveOne_17 rfl rfl ?_
    refine r_getI X fl_2_53 k_X_43_0 dX2_giveOne_18 ?_
    refine r_aload_n X 1 dX2_giveOne_21 rfl rfl ?_
    refine r_getR X fl_2_56 (pr_k1 hcp) dX2_giveOne_22 ?_
    refine r_iload_n X 2 dX2_giveOne_25 rfl rfl ?_
    obtain ⟨hg2, hf⟩ := gd_some hf
    refine r_iald X (pr_a1 hcp) hg2 dX2_giveOne_26 ?_
    refine r_icmp_ge (tgt := 123) X dX2_giveOne_27 (by decide) (fun hc3 => ?_) (fun hc3 => ?_)
    · have hf := ite_yes hc3 hf
      refine r_perm (lv2 := []) [] rfl ?_
      exact hk123 _ hf
    · have hf := ite_no hc3 hf
      refine r_aload_n X 0 dX2_giveOne_30 rfl rfl ?_
      refine r_getR X fl_2_21 k_X_43_4 dX2_giveOne_31 ?_
      refine r_iload X 5 dX2_giveOne_34 rfl ?_
      obtain ⟨hg4, hf⟩ := gd_some hf
      refine r_iald X a_X_46 hg4 dX2_giveOne_36 ?_
      refine r_istore (lv2 := [(6, mI (sg 46 (ix x5))), (0, .ref (ad 43)), (1, .ref (ad cp)), (2, mI x2), (3, .ref (ad 1)), (4, .ref (ad 25)), (5, mI x5)]) X dX2_giveOne_37 (by decide) rfl ?_
      refine r_aload_n X 2 dX2_giveOne_39 rfl rfl ?_
      refine r_getR X fl_2_61 (pr_k2 hcp) dX2_giveOne_40 ?_
      refine r_iload_n X 3 dX2_giveOne_43 rfl rfl ?_
      obtain ⟨hg5, hf⟩ := gd_some hf
      refine r_zald X (pr_a2 hcp) hg5 dX2_giveOne_44 ?_
      refine r_if_eq (tgt := 62) X dX2_giveOne_45 (by decide) (fun hc6 => ?_) (fun hc6 => ?_)
      · have hf := ite_yes hc6 hf
        refine r_iconst X dX2_giveOne_62 ?_
        refine r_perm (lv2 := [(0, .ref (ad 43)), (1, .ref (ad cp)), (2, mI x2), (3, .ref (ad 1)), (4, .ref (ad 25)), (5, mI x5), (6, mI (sg 46 (ix x5)))]) [1, 2, 3, 4, 5, 6, 0] rfl ?_
        exact b_Giver_giveOne_63_ok X hcp hkc hk123 hf
      · have hf := ite_no hc6 hf
        refine r_aload_n X 1 dX2_giveOne_48 rfl rfl ?_
        refine r_getR X fl_2_24 k_X_43_5 dX2_giveOne_49 ?_
        refine r_iload X 0 dX2_giveOne_52 rfl ?_
        obtain ⟨hg7, hf⟩ := gd_some hf
        refine r_zald X a_X_47 hg7 dX2_giveOne_54 ?_
        refine r_if_eq (tgt := 62) X dX2_giveOne_55 (by decide) (fun hc8 => ?_) (fun hc8 => ?_)
        · have hf := ite_yes hc8 hf
          refine r_iconst X dX2_giveOne_62 ?_
          refine r_perm (lv2 := [(0, .ref (ad 43)), (1, .ref (ad cp)), (2, mI x2), (3, .ref (ad 1)), (4, .ref (ad 25)), (5, mI x5), (6, mI (sg 46 (ix x5)))]) [1, 2, 3, 4, 5, 6, 0] rfl ?_
          exact b_Giver_giveOne_63_ok X hcp hkc hk123 hf
        · have hf := ite_no hc8 hf
          refine r_iconst X dX2_giveOne_58 ?_
          refine r_goto (tgt := 63) X dX2_giveOne_59 (by decide) ?_
          refine r_perm (lv2 := [(0, .ref (ad 43)), (1, .ref (ad cp)), (2, mI x2), (3, .ref (ad 1)), (4, .ref (ad 25)), (5, mI x5), (6, mI (sg 46 (ix x5)))]) [1, 2, 3, 4, 5, 6, 0] rfl ?_
          exact b_Giver_giveOne_63_ok X hcp hkc hk123 hf
set_option maxRecDepth 100000 in
set_option maxHeartbeats 4000000 in
theorem l_Giver_giveOne_8_ok {p : Program} {l : Launch} {e : Env} {s : State} {m : MethodId} {args : Array Value} {below : List Frame} {meth : Method} {c : Code} {D : va_G} {cy : Nat → ClassId} {ad : Nat → Nat} (X : CX p s m args meth c cX2_giveOne RX2 8 none D shX cy ad (aw shX ad)) {cp : Nat} (hcp : PRc cp) {F : Nat} {k123 : St → Option (St)} {q : St} (hk123 : ∀ sg , k123 sg  = some q → GG p l e rm_Giver_giveOne s m args below meth c (QV D shX cy ad below args s q) D shX cy ad (aw shX ad) 8 123 [] [] sg) : ∀ (n : Nat) (sg : St) (x2 x5 : Int), l_Giver_giveOne_8 cp F k123 n sg x2 x5 = some q → GG p l e rm_Giver_giveOne s m args below meth c (QV D shX cy ad below args s q) D shX cy ad (aw shX ad) 8 8 [(0, .ref (ad 43)), (1, .ref (ad cp)), (2, mI x2), (3, .ref (ad 1)), (4, .ref (ad 25)), (5, mI x5)] [] sg := by
  intro n
  induction n with
  | zero => intro sg x2 x5 h; cases h
  | succ n ih => exact fun sg x2 x5 h => b_Giver_giveOne_8_ok X hcp ih hk123 h
set_option maxRecDepth 100000 in
set_option maxHeartbeats 4000000 in
theorem c_Giver_giveOne {l : Launch} {F : Nat} {cp : Nat} (hcp : PRc cp) {sg : St} {x2 : Int} {q : St} (hf : f_Giver_giveOne F cp sg x2 = some q) : MV l shX yX2_giveOne cX2_giveOne 8 none rm_Giver_giveOne (fun ad => [.ref (ad 43), .ref (ad cp), mI x2, .ref (ad 1), .ref (ad 25)]) sg q := by
  refine mk_v (by decide) (fun _ => Nat.le_of_ble_eq_true rfl) (fun p e s m args below meth c D cy ad X => ?_)
  have X : CX p s m args meth c cX2_giveOne RX2 8 none D shX cy ad (aw shX ad) := X
  refine r_perm (lv2 := [(0, .ref (ad 43)), (1, .ref (ad cp)), (2, mI x2), (3, .ref (ad 1)), (4, .ref (ad 25))]) [0, 1, 2, 3, 4] rfl ?_
  refine r_aload_n X 0 dX2_giveOne_0 rfl rfl ?_
  refine r_iconst X dX2_giveOne_1 ?_
  refine r_putI X fp_2_53 k_X_43_0 rfl rfl dX2_giveOne_2 ?_
  refine r_iconst X dX2_giveOne_5 ?_
  refine r_istore (lv2 := [(5, mI 0), (0, .ref (ad 43)), (1, .ref (ad cp)), (2, mI x2), (3, .ref (ad 1)), (4, .ref (ad 25))]) X dX2_giveOne_6 (by decide) rfl ?_
  refine r_perm (lv2 := [(0, .ref (ad 43)), (1, .ref (ad cp)), (2, mI x2), (3, .ref (ad 1)), (4, .ref (ad 25)), (5, mI 0)]) [1, 2, 3, 4, 5, 0] rfl ?_
  refine l_Giver_giveOne_8_ok X hcp ?_ F _ _ _ hf
  · intro s2  hf
    exact r_vreturn X hf dX2_giveOne_123
set_option maxRecDepth 100000 in
set_option maxHeartbeats 4000000 in
theorem b_Halls_search_4_ok {p : Program} {l : Launch} {e : Env} {s : State} {m : MethodId} {args : Array Value} {below : List Frame} {meth : Method} {c : Code} {D : va_G} {cy : Nat → ClassId} {ad : Nat → Nat} (X : CX p s m args meth c cX3_search RX3 5 (some .int) D shX cy ad (aw shX ad)) {F : Nat} {kc : St → Int → Int → Option (Int × St)} {k104 : St → Int → Option (Int × St)} {q : Int × St} (hkc : ∀ sg x2 x3, kc sg x2 x3 = some q → GG p l e rm_Halls_search s m args below meth c (QI D shX cy ad below args s q) D shX cy ad (aw shX ad) 5 4 [(0, .ref (ad 72)), (1, .ref (ad 1)), (2, mI x2), (3, mI x3)] [] sg) (hk104 : ∀ sg x2, k104 sg x2 = some q → GG p l e rm_Halls_search s m args below meth c (QI D shX cy ad below args s q) D shX cy ad (aw shX ad) 5 104 [(2, mI x2)] [] sg) {sg : St} {x2 x3 : Int} (hf : b_Halls_search_4  F kc k104 sg x2 x3 = some q) : GG p l e rm_Halls_search s m args below meth c (QI D shX cy ad below args s q) D shX cy ad (aw shX ad) 5 4 [(0, .ref (ad 72)), (1, .ref (ad 1)), (2, mI x2), (3, mI x3)] [] sg := by
  refine r_iload_n X 3 dX3_search_4 rfl rfl ?_
  refine r_ldc X cst_RX3_56 dX3_search_5 ?_
  refine r_icmp_ge (tgt := 104) X dX3_search_7 (by decide) (fun hc1 => ?_) (fun hc1 => ?_)
  · have hf := ite_yes hc1 hf
    refine r_perm (lv2 := [(2, mI x2)]) [2] rfl ?_
    exact hk104 _ _ hf
  · have hf := ite_no hc1 hf
    refine r_iload_n X 2 dX3_search_10 rfl rfl ?_
    refine r_if_lt (tgt := 104) X dX3_search_11 (by decide) (fun hc2 => ?_) (fun hc2 => ?_)
    · have hf := ite_yes hc2 hf
      refine r_perm (lv2 := [(2, mI x2)]) [2] rfl ?_
      exact hk104 _ _ hf
    · have hf := ite_no hc2 hf
      refine r_iload_n X 2 dX3_search_14 rfl rfl ?_
      refine r_aload_n X 1 dX3_search_15 rfl rfl ?_
      refine r_getI X fl_3_40 k_X_1_0 dX3_search_16 ?_
      refine r_icmp_ge (tgt := 104) X dX3_search_19 (by decide) (fun hc3 => ?_) (fun hc3 => ?_)
      · have hf := ite_yes hc3 hf
        refine r_perm (lv2 := [(2, mI x2)]) [2] rfl ?_
        exact hk104 _ _ hf
      · have hf := ite_no hc3 hf
        refine r_aload_n X 0 dX3_search_22 rfl rfl ?_
        refine r_getR X fl_3_11 k_X_72_2 dX3_search_23 ?_
        refine r_iload_n X 2 dX3_search_26 rfl rfl ?_
        obtain ⟨hg4, hf⟩ := gd_some hf
        refine r_iald X a_X_73 hg4 dX3_search_27 ?_
        refine r_istore (lv2 := [(4, mI (sg 73 (ix x2))), (0, .ref (ad 72)), (1, .ref (ad 1)), (2, mI x2), (3, mI x3)]) X dX3_search_28 (by decide) rfl ?_
        refine r_iload X 0 dX3_search_30 rfl ?_
        refine r_aload_n X 1 dX3_search_32 rfl rfl ?_
        refine r_getI X fl_3_37 k_X_72_0 dX3_search_33 ?_
        refine r_icmp_lt (tgt := 66) X dX3_search_36 (by decide) (fun hc5 => ?_) (fun hc5 => ?_)
        · have hf := ite_yes hc5 hf
          refine r_aload_n X 1 dX3_search_66 rfl rfl ?_
          refine r_getI X fl_3_53 k_X_72_1 dX3_search_67 ?_
          refine r_sipush X dX3_search_70 (by decide) ?_
          refine r_icmp_lt (tgt := 79) X dX3_search_73 (by decide) (fun hc11 => ?_) (fun hc11 => ?_)
          · have hf := ite_yes hc11 hf
            refine r_aload_n X 1 dX3_search_79 rfl rfl ?_
            refine r_dup X dX3_search_80 rfl ?_
            refine r_getI X fl_3_53 k_X_72_1 dX3_search_81 ?_
            refine r_iconst X dX3_search_84 ?_
            refine r_iadd X dX3_search_85 ?_
            refine r_putI X fp_3_53 k_X_72_1 rfl rfl dX3_search_86 ?_
            refine r_aload_n X 1 dX3_search_89 rfl rfl ?_
            refine r_aload_n X 2 dX3_search_90 rfl rfl ?_
            refine r_iload_n X 3 dX3_search_91 rfl rfl ?_
            refine r_iload X 0 dX3_search_92 rfl ?_
            obtain ⟨q13, hq13, hf⟩ := bd_some hf
            refine r_callVI X (As := [.ref (ad 1), mI x2, mI (sg 73 (ix x2))]) (st := []) (as := fun ad => [.ref (ad 72), .ref (ad 1), mI x2, mI (sg 73 (ix x2))]) (c_Halls_place hq13) rfl yw_X3_place yv_X3_place ml_RX3_61 o_X_72 rfl rfl ⟨rfl, rfl⟩ ⟨Nat.le_of_ble_eq_true rfl, Nat.le_of_ble_eq_true rfl⟩ rfl rfl (Nat.le_of_ble_eq_true rfl) dX3_search_94 ?_
            refine r_istore_n (lv2 := [(2, mI q13.1), (4, mI (sg 73 (ix x2))), (0, .ref (ad 72)), (1, .ref (ad 1)), (3, mI x3)]) X dX3_search_97 rfl (by decide) rfl ?_
            refine r_iinc (lv2 := [(3, mI (x3 + 1)), (2, mI q13.1), (4, mI (sg 73 (ix x2))), (0, .ref (ad 72)), (1, .ref (ad 1))]) X 4 dX3_search_98 rfl (by decide) rfl ?_
            refine r_goto (tgt := 4) X dX3_search_101 (by decide) ?_
            refine r_perm (lv2 := [(0, .ref (ad 72)), (1, .ref (ad 1)), (2, mI q13.1), (3, mI (x3 + 1))]) [3, 4, 1, 0] rfl ?_
            exact hkc _ _ _ hf
          · have hf := ite_no hc11 hf
            refine r_bipush X dX3_search_76 (by decide) ?_
            exact r_ireturn X hf dX3_search_78
        · have hf := ite_no hc5 hf
          refine r_iinc (lv2 := [(2, mI (x2 + (-1))), (4, mI (sg 73 (ix x2))), (0, .ref (ad 72)), (1, .ref (ad 1)), (3, mI x3)]) X 3 dX3_search_39 rfl (by decide) rfl ?_
          refine r_iload_n X 0 dX3_search_42 rfl rfl ?_
          refine r_if_lt (tgt := 98) X dX3_search_43 (by decide) (fun hc6 => ?_) (fun hc6 => ?_)
          · have hf := ite_yes hc6 hf
            refine r_iinc (lv2 := [(3, mI (x3 + 1)), (2, mI (x2 + (-1))), (4, mI (sg 73 (ix x2))), (0, .ref (ad 72)), (1, .ref (ad 1))]) X 4 dX3_search_98 rfl (by decide) rfl ?_
            refine r_goto (tgt := 4) X dX3_search_101 (by decide) ?_
            refine r_perm (lv2 := [(0, .ref (ad 72)), (1, .ref (ad 1)), (2, mI (x2 + (-1))), (3, mI (x3 + 1))]) [3, 4, 1, 0] rfl ?_
            exact hkc _ _ _ hf
          · have hf := ite_no hc6 hf
            refine r_aload_n X 2 dX3_search_46 rfl rfl ?_
            refine r_aload_n X 3 dX3_search_47 rfl rfl ?_
            refine r_iload_n X 0 dX3_search_48 rfl rfl ?_
            refine r_iconst X dX3_search_49 ?_
            obtain ⟨q7, hq7, hf⟩ := bd_some hf
            refine r_callVV X (As := [.ref (ad 1), mI (x2 + (-1)), mI 1]) (st := []) (as := fun ad => [.ref (ad 72), .ref (ad 1), mI (x2 + (-1)), mI 1]) (c_Halls_move hq7) rfl yw_X3_move yv_X3_move ml_RX3_57 o_X_72 rfl rfl ⟨rfl, rfl⟩ ⟨Nat.le_of_ble_eq_true rfl, Nat.le_of_ble_eq_true rfl⟩ rfl rfl (Nat.le_of_ble_eq_true rfl) dX3_search_50 ?_
            refine r_aload_n X 2 dX3_search_53 rfl rfl ?_
            refine r_getR X fl_3_11 k_X_72_2 dX3_search_54 ?_
            refine r_iload_n X 0 dX3_search_57 rfl rfl ?_
            refine r_dup2 X dX3_search_58 rfl rfl ?_
            obtain ⟨hg8, hf⟩ := gd_some hf
            refine r_iald X a_X_73 hg8 dX3_search_59 ?_
            refine r_iconst X dX3_search_60 ?_
            refine r_iadd X dX3_search_61 ?_
            obtain ⟨hg9, hf⟩ := gd_some hf
            refine r_iast X a_X_73 hg9 dX3_search_62 ?_
            refine r_goto (tgt := 98) X dX3_search_63 (by decide) ?_
            refine r_iinc (lv2 := [(3, mI (x3 + 1)), (2, mI (x2 + (-1))), (4, mI (sg 73 (ix x2))), (0, .ref (ad 72)), (1, .ref (ad 1))]) X 4 dX3_search_98 rfl (by decide) rfl ?_
            refine r_goto (tgt := 4) X dX3_search_101 (by decide) ?_
            refine r_perm (lv2 := [(0, .ref (ad 72)), (1, .ref (ad 1)), (2, mI (x2 + (-1))), (3, mI (x3 + 1))]) [3, 4, 1, 0] rfl ?_
            exact hkc _ _ _ hf
set_option maxRecDepth 100000 in
set_option maxHeartbeats 4000000 in
theorem l_Halls_search_4_ok {p : Program} {l : Launch} {e : Env} {s : State} {m : MethodId} {args : Array Value} {below : List Frame} {meth : Method} {c : Code} {D : va_G} {cy : Nat → ClassId} {ad : Nat → Nat} (X : CX p s m args meth c cX3_search RX3 5 (some .int) D shX cy ad (aw shX ad)) {F : Nat} {k104 : St → Int → Option (Int × St)} {q : Int × St} (hk104 : ∀ sg x2, k104 sg x2 = some q → GG p l e rm_Halls_search s m args below meth c (QI D shX cy ad below args s q) D shX cy ad (aw shX ad) 5 104 [(2, mI x2)] [] sg) : ∀ (n : Nat) (sg : St) (x2 x3 : Int), l_Halls_search_4  F k104 n sg x2 x3 = some q → GG p l e rm_Halls_search s m args below meth c (QI D shX cy ad below args s q) D shX cy ad (aw shX ad) 5 4 [(0, .ref (ad 72)), (1, .ref (ad 1)), (2, mI x2), (3, mI x3)] [] sg := by
  intro n
  induction n with
  | zero => intro sg x2 x3 h; cases h
  | succ n ih => exact fun sg x2 x3 h => b_Halls_search_4_ok X ih hk104 h
set_option maxRecDepth 100000 in
set_option maxHeartbeats 4000000 in
theorem b_Halls_search_104_ok {p : Program} {l : Launch} {e : Env} {s : State} {m : MethodId} {args : Array Value} {below : List Frame} {meth : Method} {c : Code} {D : va_G} {cy : Nat → ClassId} {ad : Nat → Nat} (X : CX p s m args meth c cX3_search RX3 5 (some .int) D shX cy ad (aw shX ad)) {F : Nat} {q : Int × St} {sg : St} {x2 : Int} (hf : b_Halls_search_104  F  sg x2 = some q) : GG p l e rm_Halls_search s m args below meth c (QI D shX cy ad below args s q) D shX cy ad (aw shX ad) 5 104 [(2, mI x2)] [] sg := by
  refine r_iload_n X 0 dX3_search_104 rfl rfl ?_
  refine r_if_ge (tgt := 113) X dX3_search_105 (by decide) (fun hc1 => ?_) (fun hc1 => ?_)
  · have hf := ite_yes hc1 hf
    refine r_iconst X dX3_search_113 ?_
    exact r_ireturn X hf dX3_search_114
  · have hf := ite_no hc1 hf
    refine r_bipush X dX3_search_108 (by decide) ?_
    refine r_goto (tgt := 114) X dX3_search_110 (by decide) ?_
    exact r_ireturn X hf dX3_search_114
set_option maxRecDepth 100000 in
set_option maxHeartbeats 4000000 in
theorem c_Halls_search {l : Launch} {F : Nat} {sg : St} {q : Int × St} (hf : f_Halls_search F  sg  = some q) : MI l shX yX3_search cX3_search 5 (some .int) rm_Halls_search (fun ad => [.ref (ad 72), .ref (ad 1)]) sg q.2 q.1 := by
  refine mk_i (by decide) (fun _ => Nat.le_of_ble_eq_true rfl) (fun p e s m args below meth c D cy ad X => ?_)
  have X : CX p s m args meth c cX3_search RX3 5 (some .int) D shX cy ad (aw shX ad) := X
  refine r_perm (lv2 := [(0, .ref (ad 72)), (1, .ref (ad 1))]) [0, 1] rfl ?_
  refine r_iconst X dX3_search_0 ?_
  refine r_istore_n (lv2 := [(2, mI 0), (0, .ref (ad 72)), (1, .ref (ad 1))]) X dX3_search_1 rfl (by decide) rfl ?_
  refine r_iconst X dX3_search_2 ?_
  refine r_istore_n (lv2 := [(3, mI 0), (2, mI 0), (0, .ref (ad 72)), (1, .ref (ad 1))]) X dX3_search_3 rfl (by decide) rfl ?_
  refine r_perm (lv2 := [(0, .ref (ad 72)), (1, .ref (ad 1)), (2, mI 0), (3, mI 0)]) [2, 3, 1, 0] rfl ?_
  refine l_Halls_search_4_ok X ?_ F _ _ _ hf
  · intro s1 x2_2 hf
    exact b_Halls_search_104_ok X  hf
set_option maxRecDepth 100000 in
set_option maxHeartbeats 4000000 in
theorem c_Known_lookBack {l : Launch} {F : Nat} {sg : St} {x2 : Int} {q : St} (hf : f_Known_lookBack F  sg x2 = some q) : MV l shX yX5_lookBack cX5_lookBack 3 none rm_Known_lookBack (fun ad => [.ref (ad 25), .ref (ad 19), mI x2]) sg q := by
  refine mk_v (by decide) (fun _ => Nat.le_of_ble_eq_true rfl) (fun p e s m args below meth c D cy ad X => ?_)
  have X : CX p s m args meth c cX5_lookBack RX5 3 none D shX cy ad (aw shX ad) := X
  refine r_perm (lv2 := [(0, .ref (ad 25)), (1, .ref (ad 19)), (2, mI x2)]) [0, 1, 2] rfl ?_
  refine r_aload_n X 0 dX5_lookBack_0 rfl rfl ?_
  refine r_aload_n X 1 dX5_lookBack_1 rfl rfl ?_
  refine r_iload_n X 2 dX5_lookBack_2 rfl rfl ?_
  obtain ⟨q1, hq1, hf⟩ := bd_some hf
  refine r_callVV X (As := [.ref (ad 19), mI x2]) (st := []) (as := fun ad => [.ref (ad 25), .ref (ad 19), mI x2]) (c_Known_takeLatest hq1) rfl yw_X5_takeLatest yv_X5_takeLatest ml_RX5_21 o_X_25 rfl rfl ⟨rfl, rfl⟩ ⟨Nat.le_of_ble_eq_true rfl, Nat.le_of_ble_eq_true rfl⟩ rfl rfl (Nat.le_of_ble_eq_true rfl) dX5_lookBack_3 ?_
  refine r_aload_n X 0 dX5_lookBack_6 rfl rfl ?_
  obtain ⟨q2, hq2, hf⟩ := bd_some hf
  refine r_callVV X (As := []) (st := []) (as := fun ad => [.ref (ad 25)]) (c_Known_formHeaps hq2) rfl yw_X5_formHeaps yv_X5_formHeaps ml_RX5_25 o_X_25 rfl rfl ⟨rfl, rfl⟩ ⟨Nat.le_of_ble_eq_true rfl, Nat.le_of_ble_eq_true rfl⟩ rfl rfl (Nat.le_of_ble_eq_true rfl) dX5_lookBack_7 ?_
  exact r_vreturn X hf dX5_lookBack_10
set_option maxRecDepth 100000 in
set_option maxHeartbeats 4000000 in
theorem b_Plan_reachRoom_59_ok {p : Program} {l : Launch} {e : Env} {s : State} {m : MethodId} {args : Array Value} {below : List Frame} {meth : Method} {c : Code} {D : va_G} {cy : Nat → ClassId} {ad : Nat → Nat} (X : CX p s m args meth c cX7_reachRoom RX7 5 (some .int) D shX cy ad (aw shX ad)) {F : Nat} {kc : St → Int → Int → Int → Int → Option (Int × St)} {k6 : St → Int → Option (Int × St)} {k127 : St → Int → Option (Int × St)} {q : Int × St} (hkc : ∀ sg x1 x2 x3 x4, kc sg x1 x2 x3 x4 = some q → GG p l e rm_Plan_reachRoom s m args below meth c (QI D shX cy ad below args s q) D shX cy ad (aw shX ad) 5 59 [(0, .ref (ad 11)), (1, mI x1), (2, mI x2), (3, mI x3), (4, mI x4)] [] sg) (hk6 : ∀ sg x1, k6 sg x1 = some q → GG p l e rm_Plan_reachRoom s m args below meth c (QI D shX cy ad below args s q) D shX cy ad (aw shX ad) 5 6 [(0, .ref (ad 11)), (1, mI x1)] [] sg) (hk127 : ∀ sg x1, k127 sg x1 = some q → GG p l e rm_Plan_reachRoom s m args below meth c (QI D shX cy ad below args s q) D shX cy ad (aw shX ad) 5 127 [(0, .ref (ad 11)), (1, mI x1)] [] sg) {sg : St} {x1 x2 x3 x4 : Int} (hf : b_Plan_reachRoom_59  F kc k6 k127 sg x1 x2 x3 x4 = some q) : GG p l e rm_Plan_reachRoom s m args below meth c (QI D shX cy ad below args s q) D shX cy ad (aw shX ad) 5 59 [(0, .ref (ad 11)), (1, mI x1), (2, mI x2), (3, mI x3), (4, mI x4)] [] sg := by
  refine r_iload X 4 dX7_reachRoom_59 rfl ?_
  refine r_aload_n X 0 dX7_reachRoom_61 rfl rfl ?_
  refine r_getI X fl_7_37 k_X_11_2 dX7_reachRoom_62 ?_
  refine r_icmp_ge (tgt := 127) X dX7_reachRoom_65 (by decide) (fun hc1 => ?_) (fun hc1 => ?_)
  · have hf := ite_yes hc1 hf
    refine r_perm (lv2 := [(0, .ref (ad 11)), (1, mI x1)]) [0, 1] rfl ?_
    exact hk127 _ _ hf
  · have hf := ite_no hc1 hf
    refine r_iload_n X 3 dX7_reachRoom_68 rfl rfl ?_
    refine r_if_eq (tgt := 127) X dX7_reachRoom_69 (by decide) (fun hc2 => ?_) (fun hc2 => ?_)
    · have hf := ite_yes hc2 hf
      refine r_perm (lv2 := [(0, .ref (ad 11)), (1, mI x1)]) [0, 1] rfl ?_
      exact hk127 _ _ hf
    · have hf := ite_no hc2 hf
      refine r_iload_n X 3 dX7_reachRoom_72 rfl rfl ?_
      refine r_iload X 4 dX7_reachRoom_73 rfl ?_
      refine r_ishr X dX7_reachRoom_75 ?_
      refine r_iconst X dX7_reachRoom_76 ?_
      refine r_iand X dX7_reachRoom_77 ?_
      refine r_iconst X dX7_reachRoom_78 ?_
      refine r_icmp_ne (tgt := 121) X dX7_reachRoom_79 (by decide) (fun hc3 => ?_) (fun hc3 => ?_)
      · have hf := ite_yes hc3 hf
        refine r_aload_n X 0 dX7_reachRoom_82 rfl rfl ?_
        refine r_dup X dX7_reachRoom_83 rfl ?_
        refine r_getI X fl_7_118 k_X_11_12 dX7_reachRoom_84 ?_
        refine r_iconst X dX7_reachRoom_87 ?_
        refine r_iload X 4 dX7_reachRoom_88 rfl ?_
        refine r_ishl X dX7_reachRoom_90 ?_
        refine r_ior X dX7_reachRoom_91 ?_
        refine r_putI X fp_7_118 k_X_11_12 rfl rfl dX7_reachRoom_92 ?_
        refine r_aload_n X 0 dX7_reachRoom_95 rfl rfl ?_
        refine r_getR X fl_7_30 k_X_11_16 dX7_reachRoom_96 ?_
        refine r_iload X 4 dX7_reachRoom_99 rfl ?_
        refine r_iload_n X 2 dX7_reachRoom_101 rfl rfl ?_
        obtain ⟨hg5, hf⟩ := gd_some hf
        refine r_iast X a_X_18 hg5 dX7_reachRoom_102 ?_
        refine r_aload_n X 0 dX7_reachRoom_103 rfl rfl ?_
        refine r_iload X 4 dX7_reachRoom_104 rfl ?_
        obtain ⟨q7, hq7, hf⟩ := bd_some hf
        refine r_callVI X (As := [mI x4]) (st := []) (as := fun ad => [.ref (ad 11), mI x4]) (c_Plan_hasRoom hq7) rfl yw_X7_hasRoom yv_X7_hasRoom ml_RX7_94 o_X_11 rfl rfl ⟨rfl, rfl⟩ ⟨Nat.le_of_ble_eq_true rfl, Nat.le_of_ble_eq_true rfl⟩ rfl rfl (Nat.le_of_ble_eq_true rfl) dX7_reachRoom_106 ?_
        refine r_if_eq (tgt := 115) X dX7_reachRoom_109 (by decide) (fun hc8 => ?_) (fun hc8 => ?_)
        · have hf := ite_yes hc8 hf
          refine r_aload_n X 0 dX7_reachRoom_115 rfl rfl ?_
          refine r_iload X 4 dX7_reachRoom_116 rfl ?_
          obtain ⟨q9, hq9, hf⟩ := bd_some hf
          refine r_callVV X (As := [mI x4]) (st := []) (as := fun ad => [.ref (ad 11), mI x4]) (c_Plan_reachShown hq9) rfl yw_X7_reachShown yv_X7_reachShown ml_RX7_121 o_X_11 rfl rfl ⟨rfl, rfl⟩ ⟨Nat.le_of_ble_eq_true rfl, Nat.le_of_ble_eq_true rfl⟩ rfl rfl (Nat.le_of_ble_eq_true rfl) dX7_reachRoom_118 ?_
          refine r_iinc (lv2 := [(4, mI (x4 + 1)), (0, .ref (ad 11)), (1, mI x1), (2, mI x2), (3, mI x3)]) X 4 dX7_reachRoom_121 rfl (by decide) rfl ?_
          refine r_goto (tgt := 59) X dX7_reachRoom_124 (by decide) ?_
          refine r_perm (lv2 := [(0, .ref (ad 11)), (1, mI x1), (2, mI x2), (3, mI x3), (4, mI (x4 + 1))]) [1, 2, 3, 4, 0] rfl ?_
          exact hkc _ _ _ _ _ hf
        · have hf := ite_no hc8 hf
          refine r_iload X 4 dX7_reachRoom_112 rfl ?_
          exact r_ireturn X hf dX7_reachRoom_114
      · have hf := ite_no hc3 hf
        refine r_iinc (lv2 := [(4, mI (x4 + 1)), (0, .ref (ad 11)), (1, mI x1), (2, mI x2), (3, mI x3)]) X 4 dX7_reachRoom_121 rfl (by decide) rfl ?_
        refine r_goto (tgt := 59) X dX7_reachRoom_124 (by decide) ?_
        refine r_perm (lv2 := [(0, .ref (ad 11)), (1, mI x1), (2, mI x2), (3, mI x3), (4, mI (x4 + 1))]) [1, 2, 3, 4, 0] rfl ?_
        exact hkc _ _ _ _ _ hf
set_option maxRecDepth 100000 in
set_option maxHeartbeats 4000000 in
theorem l_Plan_reachRoom_59_ok {p : Program} {l : Launch} {e : Env} {s : State} {m : MethodId} {args : Array Value} {below : List Frame} {meth : Method} {c : Code} {D : va_G} {cy : Nat → ClassId} {ad : Nat → Nat} (X : CX p s m args meth c cX7_reachRoom RX7 5 (some .int) D shX cy ad (aw shX ad)) {F : Nat} {k6 : St → Int → Option (Int × St)} {k127 : St → Int → Option (Int × St)} {q : Int × St} (hk6 : ∀ sg x1, k6 sg x1 = some q → GG p l e rm_Plan_reachRoom s m args below meth c (QI D shX cy ad below args s q) D shX cy ad (aw shX ad) 5 6 [(0, .ref (ad 11)), (1, mI x1)] [] sg) (hk127 : ∀ sg x1, k127 sg x1 = some q → GG p l e rm_Plan_reachRoom s m args below meth c (QI D shX cy ad below args s q) D shX cy ad (aw shX ad) 5 127 [(0, .ref (ad 11)), (1, mI x1)] [] sg) : ∀ (n : Nat) (sg : St) (x1 x2 x3 x4 : Int), l_Plan_reachRoom_59  F k6 k127 n sg x1 x2 x3 x4 = some q → GG p l e rm_Plan_reachRoom s m args below meth c (QI D shX cy ad below args s q) D shX cy ad (aw shX ad) 5 59 [(0, .ref (ad 11)), (1, mI x1), (2, mI x2), (3, mI x3), (4, mI x4)] [] sg := by
  intro n
  induction n with
  | zero => intro sg x1 x2 x3 x4 h; cases h
  | succ n ih => exact fun sg x1 x2 x3 x4 h => b_Plan_reachRoom_59_ok X ih hk6 hk127 h
set_option maxRecDepth 100000 in
set_option maxHeartbeats 4000000 in
theorem b_Plan_reachRoom_6_ok {p : Program} {l : Launch} {e : Env} {s : State} {m : MethodId} {args : Array Value} {below : List Frame} {meth : Method} {c : Code} {D : va_G} {cy : Nat → ClassId} {ad : Nat → Nat} (X : CX p s m args meth c cX7_reachRoom RX7 5 (some .int) D shX cy ad (aw shX ad)) {F : Nat} {kc : St → Int → Option (Int × St)} {k133 : St → Option (Int × St)} {q : Int × St} (hkc : ∀ sg x1, kc sg x1 = some q → GG p l e rm_Plan_reachRoom s m args below meth c (QI D shX cy ad below args s q) D shX cy ad (aw shX ad) 5 6 [(0, .ref (ad 11)), (1, mI x1)] [] sg) (hk133 : ∀ sg , k133 sg  = some q → GG p l e rm_Plan_reachRoom s m args below meth c (QI D shX cy ad below args s q) D shX cy ad (aw shX ad) 5 133 [] [] sg) {sg : St} {x1 : Int} (hf : b_Plan_reachRoom_6  F kc k133 sg x1 = some q) : GG p l e rm_Plan_reachRoom s m args below meth c (QI D shX cy ad below args s q) D shX cy ad (aw shX ad) 5 6 [(0, .ref (ad 11)), (1, mI x1)] [] sg := by
  refine r_iload_n X 1 dX7_reachRoom_6 rfl rfl ?_
  refine r_aload_n X 0 dX7_reachRoom_7 rfl rfl ?_
  refine r_getI X fl_7_115 k_X_11_13 dX7_reachRoom_8 ?_
  refine r_icmp_ge (tgt := 133) X dX7_reachRoom_11 (by decide) (fun hc1 => ?_) (fun hc1 => ?_)
  · have hf := ite_yes hc1 hf
    refine r_perm (lv2 := []) [] rfl ?_
    exact hk133 _ hf
  · have hf := ite_no hc1 hf
    refine r_iload_n X 1 dX7_reachRoom_14 rfl rfl ?_
    refine r_bipush X dX7_reachRoom_15 (by decide) ?_
    refine r_icmp_ge (tgt := 133) X dX7_reachRoom_17 (by decide) (fun hc2 => ?_) (fun hc2 => ?_)
    · have hf := ite_yes hc2 hf
      refine r_perm (lv2 := []) [] rfl ?_
      exact hk133 _ hf
    · have hf := ite_no hc2 hf
      refine r_aload_n X 0 dX7_reachRoom_20 rfl rfl ?_
      refine r_getR X fl_7_24 k_X_11_14 dX7_reachRoom_21 ?_
      refine r_iload_n X 1 dX7_reachRoom_24 rfl rfl ?_
      obtain ⟨hg3, hf⟩ := gd_some hf
      refine r_iald X a_X_16 hg3 dX7_reachRoom_25 ?_
      refine r_istore_n (lv2 := [(2, mI (sg 16 (ix x1))), (0, .ref (ad 11)), (1, mI x1)]) X dX7_reachRoom_26 rfl (by decide) rfl ?_
      refine r_aload_n X 1 dX7_reachRoom_27 rfl rfl ?_
      refine r_getR X fl_7_15 k_X_11_6 dX7_reachRoom_28 ?_
      refine r_iload_n X 0 dX7_reachRoom_31 rfl rfl ?_
      obtain ⟨hg4, hf⟩ := gd_some hf
      refine r_iald X a_X_13 hg4 dX7_reachRoom_32 ?_
      refine r_aload_n X 1 dX7_reachRoom_33 rfl rfl ?_
      refine r_getR X fl_7_18 k_X_11_7 dX7_reachRoom_34 ?_
      refine r_iload_n X 0 dX7_reachRoom_37 rfl rfl ?_
      obtain ⟨hg5, hf⟩ := gd_some hf
      refine r_iald X a_X_14 hg5 dX7_reachRoom_38 ?_
      refine r_iconst X dX7_reachRoom_39 ?_
      refine r_ixor X dX7_reachRoom_40 ?_
      refine r_iand X dX7_reachRoom_41 ?_
      refine r_aload_n X 1 dX7_reachRoom_42 rfl rfl ?_
      refine r_iload_n X 0 dX7_reachRoom_43 rfl rfl ?_
      obtain ⟨q6, hq6, hf⟩ := bd_some hf
      refine r_callVI X (As := [mI (sg 16 (ix x1))]) (st := [mI (andI (sg 13 (ix (sg 16 (ix x1)))) (xorI (sg 14 (ix (sg 16 (ix x1)))) (-1)))]) (as := fun ad => [.ref (ad 11), mI (sg 16 (ix x1))]) (c_Plan_openJudges hq6) rfl yw_X7_openJudges yv_X7_openJudges ml_RX7_97 o_X_11 rfl rfl ⟨rfl, rfl⟩ ⟨Nat.le_of_ble_eq_true rfl, Nat.le_of_ble_eq_true rfl⟩ rfl rfl (Nat.le_of_ble_eq_true rfl) dX7_reachRoom_44 ?_
      refine r_iand X dX7_reachRoom_47 ?_
      refine r_aload_n X 1 dX7_reachRoom_48 rfl rfl ?_
      refine r_getI X fl_7_118 k_X_11_12 dX7_reachRoom_49 ?_
      refine r_iconst X dX7_reachRoom_52 ?_
      refine r_ixor X dX7_reachRoom_53 ?_
      refine r_iand X dX7_reachRoom_54 ?_
      refine r_istore_n (lv2 := [(3, mI (andI (andI (andI (sg 13 (ix (sg 16 (ix x1)))) (xorI (sg 14 (ix (sg 16 (ix x1)))) (-1))) q6.1) (xorI (q6.2 11 12) (-1)))), (2, mI (sg 16 (ix x1))), (0, .ref (ad 11)), (1, mI x1)]) X dX7_reachRoom_55 rfl (by decide) rfl ?_
      refine r_iconst X dX7_reachRoom_56 ?_
      refine r_istore (lv2 := [(4, mI 0), (3, mI (andI (andI (andI (sg 13 (ix (sg 16 (ix x1)))) (xorI (sg 14 (ix (sg 16 (ix x1)))) (-1))) q6.1) (xorI (q6.2 11 12) (-1)))), (2, mI (sg 16 (ix x1))), (0, .ref (ad 11)), (1, mI x1)]) X dX7_reachRoom_57 (by decide) rfl ?_
      refine r_perm (lv2 := [(0, .ref (ad 11)), (1, mI x1), (2, mI (sg 16 (ix x1))), (3, mI (andI (andI (andI (sg 13 (ix (sg 16 (ix x1)))) (xorI (sg 14 (ix (sg 16 (ix x1)))) (-1))) q6.1) (xorI (q6.2 11 12) (-1)))), (4, mI 0)]) [3, 4, 2, 1, 0] rfl ?_
      refine l_Plan_reachRoom_59_ok X ?_ ?_ F _ _ _ _ _ hf
      · intro s7 x1_8 hf
        exact hkc _ _ hf
      · intro s9 x1_10 hf
        refine r_iinc (lv2 := [(1, mI (x1_10 + 1)), (0, .ref (ad 11))]) X 1 dX7_reachRoom_127 rfl (by decide) rfl ?_
        refine r_goto (tgt := 6) X dX7_reachRoom_130 (by decide) ?_
        refine r_perm (lv2 := [(0, .ref (ad 11)), (1, mI (x1_10 + 1))]) [1, 0] rfl ?_
        exact hkc _ _ hf
set_option maxRecDepth 100000 in
set_option maxHeartbeats 4000000 in
theorem l_Plan_reachRoom_6_ok {p : Program} {l : Launch} {e : Env} {s : State} {m : MethodId} {args : Array Value} {below : List Frame} {meth : Method} {c : Code} {D : va_G} {cy : Nat → ClassId} {ad : Nat → Nat} (X : CX p s m args meth c cX7_reachRoom RX7 5 (some .int) D shX cy ad (aw shX ad)) {F : Nat} {k133 : St → Option (Int × St)} {q : Int × St} (hk133 : ∀ sg , k133 sg  = some q → GG p l e rm_Plan_reachRoom s m args below meth c (QI D shX cy ad below args s q) D shX cy ad (aw shX ad) 5 133 [] [] sg) : ∀ (n : Nat) (sg : St) (x1 : Int), l_Plan_reachRoom_6  F k133 n sg x1 = some q → GG p l e rm_Plan_reachRoom s m args below meth c (QI D shX cy ad below args s q) D shX cy ad (aw shX ad) 5 6 [(0, .ref (ad 11)), (1, mI x1)] [] sg := by
  intro n
  induction n with
  | zero => intro sg x1 h; cases h
  | succ n ih => exact fun sg x1 h => b_Plan_reachRoom_6_ok X ih hk133 h
set_option maxRecDepth 100000 in
set_option maxHeartbeats 4000000 in
theorem c_Plan_reachRoom {l : Launch} {F : Nat} {sg : St} {q : Int × St} (hf : f_Plan_reachRoom F  sg  = some q) : MI l shX yX7_reachRoom cX7_reachRoom 5 (some .int) rm_Plan_reachRoom (fun ad => [.ref (ad 11)]) sg q.2 q.1 := by
  refine mk_i (by decide) (fun _ => Nat.le_of_ble_eq_true rfl) (fun p e s m args below meth c D cy ad X => ?_)
  have X : CX p s m args meth c cX7_reachRoom RX7 5 (some .int) D shX cy ad (aw shX ad) := X
  refine r_perm (lv2 := [(0, .ref (ad 11))]) [0] rfl ?_
  refine r_aload_n X 0 dX7_reachRoom_0 rfl rfl ?_
  obtain ⟨q1, hq1, hf⟩ := bd_some hf
  refine r_callVV X (As := []) (st := []) (as := fun ad => [.ref (ad 11)]) (c_Plan_startAtLacking hq1) rfl yw_X7_startAtLacking yv_X7_startAtLacking ml_RX7_112 o_X_11 rfl rfl ⟨rfl, rfl⟩ ⟨Nat.le_of_ble_eq_true rfl, Nat.le_of_ble_eq_true rfl⟩ rfl rfl (Nat.le_of_ble_eq_true rfl) dX7_reachRoom_1 ?_
  refine r_iconst X dX7_reachRoom_4 ?_
  refine r_istore_n (lv2 := [(1, mI 0), (0, .ref (ad 11))]) X dX7_reachRoom_5 rfl (by decide) rfl ?_
  refine r_perm (lv2 := [(0, .ref (ad 11)), (1, mI 0)]) [1, 0] rfl ?_
  refine l_Plan_reachRoom_6_ok X ?_ F _ _ hf
  · intro s2  hf
    refine r_iconst X dX7_reachRoom_133 ?_
    exact r_ireturn X hf dX7_reachRoom_134
set_option maxRecDepth 100000 in
set_option maxHeartbeats 4000000 in
theorem b_Scale_setRows_67_ok {p : Program} {l : Launch} {e : Env} {s : State} {m : MethodId} {args : Array Value} {below : List Frame} {meth : Method} {c : Code} {D : va_G} {cy : Nat → ClassId} {ad : Nat → Nat} (X : CX p s m args meth c cX9_setRows RX9 4 none D shX cy ad (aw shX ad)) {F : Nat} {kc : St → Int → Int → Option (St)} {k100 : St → Option (St)} {q : St} (hkc : ∀ sg x2 x3, kc sg x2 x3 = some q → GG p l e rm_Scale_setRows s m args below meth c (QV D shX cy ad below args s q) D shX cy ad (aw shX ad) 4 67 [(0, .ref (ad 29)), (2, mI x2), (3, mI x3)] [] sg) (hk100 : ∀ sg , k100 sg  = some q → GG p l e rm_Scale_setRows s m args below meth c (QV D shX cy ad below args s q) D shX cy ad (aw shX ad) 4 100 [] [] sg) {sg : St} {x2 x3 : Int} (hf : b_Scale_setRows_67  F kc k100 sg x2 x3 = some q) : GG p l e rm_Scale_setRows s m args below meth c (QV D shX cy ad below args s q) D shX cy ad (aw shX ad) 4 67 [(0, .ref (ad 29)), (2, mI x2), (3, mI x3)] [] sg := by
  refine r_iload_n X 2 dX9_setRows_67 rfl rfl ?_
  refine r_iconst X dX9_setRows_68 ?_
  refine r_icmp_gt (tgt := 100) X dX9_setRows_69 (by decide) (fun hc1 => ?_) (fun hc1 => ?_)
  · have hf := ite_yes hc1 hf
    refine r_perm (lv2 := []) [] rfl ?_
    exact hk100 _ hf
  · have hf := ite_no hc1 hf
    refine r_iload_n X 1 dX9_setRows_72 rfl rfl ?_
    refine r_if_lt (tgt := 100) X dX9_setRows_73 (by decide) (fun hc2 => ?_) (fun hc2 => ?_)
    · have hf := ite_yes hc2 hf
      refine r_perm (lv2 := []) [] rfl ?_
      exact hk100 _ hf
    · have hf := ite_no hc2 hf
      refine r_aload_n X 0 dX9_setRows_76 rfl rfl ?_
      refine r_getR X fl_9_24 k_X_29_4 dX9_setRows_77 ?_
      refine r_iload_n X 1 dX9_setRows_80 rfl rfl ?_
      obtain ⟨hg3, hf⟩ := gd_some hf
      refine r_aaldJ X sc_r hg3 dX9_setRows_81 ?_
      refine r_iload_n X 2 dX9_setRows_82 rfl rfl ?_
      refine r_iload_n X 2 dX9_setRows_83 rfl rfl ?_
      refine r_iconst X dX9_setRows_84 ?_
      refine r_icmp_ne (tgt := 92) X dX9_setRows_85 (by decide) (fun hc4 => ?_) (fun hc4 => ?_)
      · have hf := ite_yes hc4 hf
        refine r_lconst (v := 0) X dX9_setRows_88 (by decide) ?_
        refine r_goto (tgt := 93) X dX9_setRows_89 (by decide) ?_
        obtain ⟨hg5, hf⟩ := gd_some hf
        refine r_last X (sc_a (inb_ix hg3)) hg5 dX9_setRows_93 ?_
        refine r_iinc (lv2 := [(3, mI (x3 + 1)), (0, .ref (ad 29)), (2, mI x2)]) X 2 dX9_setRows_94 rfl (by decide) rfl ?_
        refine r_goto (tgt := 67) X dX9_setRows_97 (by decide) ?_
        refine r_perm (lv2 := [(0, .ref (ad 29)), (2, mI x2), (3, mI (x3 + 1))]) [1, 2, 0] rfl ?_
        exact hkc _ _ _ hf
      · have hf := ite_no hc4 hf
        refine r_lconst (v := 1) X dX9_setRows_92 (by decide) ?_
        obtain ⟨hg7, hf⟩ := gd_some hf
        refine r_last X (sc_a (inb_ix hg3)) hg7 dX9_setRows_93 ?_
        refine r_iinc (lv2 := [(3, mI (x3 + 1)), (0, .ref (ad 29)), (2, mI x2)]) X 2 dX9_setRows_94 rfl (by decide) rfl ?_
        refine r_goto (tgt := 67) X dX9_setRows_97 (by decide) ?_
        refine r_perm (lv2 := [(0, .ref (ad 29)), (2, mI x2), (3, mI (x3 + 1))]) [1, 2, 0] rfl ?_
        exact hkc _ _ _ hf
set_option maxRecDepth 100000 in
set_option maxHeartbeats 4000000 in
theorem l_Scale_setRows_67_ok {p : Program} {l : Launch} {e : Env} {s : State} {m : MethodId} {args : Array Value} {below : List Frame} {meth : Method} {c : Code} {D : va_G} {cy : Nat → ClassId} {ad : Nat → Nat} (X : CX p s m args meth c cX9_setRows RX9 4 none D shX cy ad (aw shX ad)) {F : Nat} {k100 : St → Option (St)} {q : St} (hk100 : ∀ sg , k100 sg  = some q → GG p l e rm_Scale_setRows s m args below meth c (QV D shX cy ad below args s q) D shX cy ad (aw shX ad) 4 100 [] [] sg) : ∀ (n : Nat) (sg : St) (x2 x3 : Int), l_Scale_setRows_67  F k100 n sg x2 x3 = some q → GG p l e rm_Scale_setRows s m args below meth c (QV D shX cy ad below args s q) D shX cy ad (aw shX ad) 4 67 [(0, .ref (ad 29)), (2, mI x2), (3, mI x3)] [] sg := by
  intro n
  induction n with
  | zero => intro sg x2 x3 h; cases h
  | succ n ih => exact fun sg x2 x3 h => b_Scale_setRows_67_ok X ih hk100 h
set_option maxRecDepth 100000 in
set_option maxHeartbeats 4000000 in
theorem b_Scale_setRows_40_ok {p : Program} {l : Launch} {e : Env} {s : State} {m : MethodId} {args : Array Value} {below : List Frame} {meth : Method} {c : Code} {D : va_G} {cy : Nat → ClassId} {ad : Nat → Nat} (X : CX p s m args meth c cX9_setRows RX9 4 none D shX cy ad (aw shX ad)) {F : Nat} {kc : St → Int → Option (St)} {k58 : St → Option (St)} {q : St} (hkc : ∀ sg x2, kc sg x2 = some q → GG p l e rm_Scale_setRows s m args below meth c (QV D shX cy ad below args s q) D shX cy ad (aw shX ad) 4 40 [(0, .ref (ad 29)), (1, .ref (ad 25)), (2, mI x2)] [] sg) (hk58 : ∀ sg , k58 sg  = some q → GG p l e rm_Scale_setRows s m args below meth c (QV D shX cy ad below args s q) D shX cy ad (aw shX ad) 4 58 [(0, .ref (ad 29))] [] sg) {sg : St} {x2 : Int} (hf : b_Scale_setRows_40  F kc k58 sg x2 = some q) : GG p l e rm_Scale_setRows s m args below meth c (QV D shX cy ad below args s q) D shX cy ad (aw shX ad) 4 40 [(0, .ref (ad 29)), (1, .ref (ad 25)), (2, mI x2)] [] sg := by
  refine r_iload_n X 2 dX9_setRows_40 rfl rfl ?_
  refine r_bipush X dX9_setRows_41 (by decide) ?_
  refine r_icmp_ge (tgt := 58) X dX9_setRows_43 (by decide) (fun hc1 => ?_) (fun hc1 => ?_)
  · have hf := ite_yes hc1 hf
    refine r_perm (lv2 := [(0, .ref (ad 29))]) [0] rfl ?_
    exact hk58 _ hf
  · have hf := ite_no hc1 hf
    refine r_aload_n X 0 dX9_setRows_46 rfl rfl ?_
    refine r_aload_n X 1 dX9_setRows_47 rfl rfl ?_
    refine r_iload_n X 2 dX9_setRows_48 rfl rfl ?_
    obtain ⟨q2, hq2, hf⟩ := bd_some hf
    refine r_callVV X (As := [.ref (ad 25), mI x2]) (st := []) (as := fun ad => [.ref (ad 29), .ref (ad 25), mI x2]) (c_Scale_addBoard hq2) rfl yw_X9_addBoard yv_X9_addBoard ml_RX9_70 o_X_29 rfl rfl ⟨rfl, rfl⟩ ⟨Nat.le_of_ble_eq_true rfl, Nat.le_of_ble_eq_true rfl⟩ rfl rfl (Nat.le_of_ble_eq_true rfl) dX9_setRows_49 ?_
    refine r_iinc (lv2 := [(2, mI (x2 + 1)), (0, .ref (ad 29)), (1, .ref (ad 25))]) X 2 dX9_setRows_52 rfl (by decide) rfl ?_
    refine r_goto (tgt := 40) X dX9_setRows_55 (by decide) ?_
    refine r_perm (lv2 := [(0, .ref (ad 29)), (1, .ref (ad 25)), (2, mI (x2 + 1))]) [1, 2, 0] rfl ?_
    exact hkc _ _ hf
set_option maxRecDepth 100000 in
set_option maxHeartbeats 4000000 in
theorem l_Scale_setRows_40_ok {p : Program} {l : Launch} {e : Env} {s : State} {m : MethodId} {args : Array Value} {below : List Frame} {meth : Method} {c : Code} {D : va_G} {cy : Nat → ClassId} {ad : Nat → Nat} (X : CX p s m args meth c cX9_setRows RX9 4 none D shX cy ad (aw shX ad)) {F : Nat} {k58 : St → Option (St)} {q : St} (hk58 : ∀ sg , k58 sg  = some q → GG p l e rm_Scale_setRows s m args below meth c (QV D shX cy ad below args s q) D shX cy ad (aw shX ad) 4 58 [(0, .ref (ad 29))] [] sg) : ∀ (n : Nat) (sg : St) (x2 : Int), l_Scale_setRows_40  F k58 n sg x2 = some q → GG p l e rm_Scale_setRows s m args below meth c (QV D shX cy ad below args s q) D shX cy ad (aw shX ad) 4 40 [(0, .ref (ad 29)), (1, .ref (ad 25)), (2, mI x2)] [] sg := by
  intro n
  induction n with
  | zero => intro sg x2 h; cases h
  | succ n ih => exact fun sg x2 h => b_Scale_setRows_40_ok X ih hk58 h
set_option maxRecDepth 100000 in
set_option maxHeartbeats 4000000 in
theorem b_Scale_setRows_12_ok {p : Program} {l : Launch} {e : Env} {s : State} {m : MethodId} {args : Array Value} {below : List Frame} {meth : Method} {c : Code} {D : va_G} {cy : Nat → ClassId} {ad : Nat → Nat} (X : CX p s m args meth c cX9_setRows RX9 4 none D shX cy ad (aw shX ad)) {F : Nat} {kc : St → Int → Int → Option (St)} {k32 : St → Int → Option (St)} {q : St} (hkc : ∀ sg x2 x3, kc sg x2 x3 = some q → GG p l e rm_Scale_setRows s m args below meth c (QV D shX cy ad below args s q) D shX cy ad (aw shX ad) 4 12 [(0, .ref (ad 29)), (1, .ref (ad 25)), (2, mI x2), (3, mI x3)] [] sg) (hk32 : ∀ sg x2, k32 sg x2 = some q → GG p l e rm_Scale_setRows s m args below meth c (QV D shX cy ad below args s q) D shX cy ad (aw shX ad) 4 32 [(0, .ref (ad 29)), (1, .ref (ad 25)), (2, mI x2)] [] sg) {sg : St} {x2 x3 : Int} (hf : b_Scale_setRows_12  F kc k32 sg x2 x3 = some q) : GG p l e rm_Scale_setRows s m args below meth c (QV D shX cy ad below args s q) D shX cy ad (aw shX ad) 4 12 [(0, .ref (ad 29)), (1, .ref (ad 25)), (2, mI x2), (3, mI x3)] [] sg := by
  refine r_iload_n X 3 dX9_setRows_12 rfl rfl ?_
  refine r_iconst X dX9_setRows_13 ?_
  refine r_icmp_gt (tgt := 32) X dX9_setRows_14 (by decide) (fun hc1 => ?_) (fun hc1 => ?_)
  · have hf := ite_yes hc1 hf
    refine r_perm (lv2 := [(0, .ref (ad 29)), (1, .ref (ad 25)), (2, mI x2)]) [0, 1, 2] rfl ?_
    exact hk32 _ _ hf
  · have hf := ite_no hc1 hf
    refine r_aload_n X 0 dX9_setRows_17 rfl rfl ?_
    refine r_getR X fl_9_24 k_X_29_4 dX9_setRows_18 ?_
    refine r_iload_n X 2 dX9_setRows_21 rfl rfl ?_
    obtain ⟨hg2, hf⟩ := gd_some hf
    refine r_aaldJ X sc_r hg2 dX9_setRows_22 ?_
    refine r_iload_n X 3 dX9_setRows_23 rfl rfl ?_
    refine r_lconst (v := 0) X dX9_setRows_24 (by decide) ?_
    obtain ⟨hg3, hf⟩ := gd_some hf
    refine r_last X (sc_a (inb_ix hg2)) hg3 dX9_setRows_25 ?_
    refine r_iinc (lv2 := [(3, mI (x3 + 1)), (0, .ref (ad 29)), (1, .ref (ad 25)), (2, mI x2)]) X 3 dX9_setRows_26 rfl (by decide) rfl ?_
    refine r_goto (tgt := 12) X dX9_setRows_29 (by decide) ?_
    refine r_perm (lv2 := [(0, .ref (ad 29)), (1, .ref (ad 25)), (2, mI x2), (3, mI (x3 + 1))]) [1, 2, 3, 0] rfl ?_
    exact hkc _ _ _ hf
set_option maxRecDepth 100000 in
set_option maxHeartbeats 4000000 in
theorem l_Scale_setRows_12_ok {p : Program} {l : Launch} {e : Env} {s : State} {m : MethodId} {args : Array Value} {below : List Frame} {meth : Method} {c : Code} {D : va_G} {cy : Nat → ClassId} {ad : Nat → Nat} (X : CX p s m args meth c cX9_setRows RX9 4 none D shX cy ad (aw shX ad)) {F : Nat} {k32 : St → Int → Option (St)} {q : St} (hk32 : ∀ sg x2, k32 sg x2 = some q → GG p l e rm_Scale_setRows s m args below meth c (QV D shX cy ad below args s q) D shX cy ad (aw shX ad) 4 32 [(0, .ref (ad 29)), (1, .ref (ad 25)), (2, mI x2)] [] sg) : ∀ (n : Nat) (sg : St) (x2 x3 : Int), l_Scale_setRows_12  F k32 n sg x2 x3 = some q → GG p l e rm_Scale_setRows s m args below meth c (QV D shX cy ad below args s q) D shX cy ad (aw shX ad) 4 12 [(0, .ref (ad 29)), (1, .ref (ad 25)), (2, mI x2), (3, mI x3)] [] sg := by
  intro n
  induction n with
  | zero => intro sg x2 x3 h; cases h
  | succ n ih => exact fun sg x2 x3 h => b_Scale_setRows_12_ok X ih hk32 h
set_option maxRecDepth 100000 in
set_option maxHeartbeats 4000000 in
theorem b_Scale_setRows_2_ok {p : Program} {l : Launch} {e : Env} {s : State} {m : MethodId} {args : Array Value} {below : List Frame} {meth : Method} {c : Code} {D : va_G} {cy : Nat → ClassId} {ad : Nat → Nat} (X : CX p s m args meth c cX9_setRows RX9 4 none D shX cy ad (aw shX ad)) {F : Nat} {kc : St → Int → Option (St)} {k38 : St → Option (St)} {q : St} (hkc : ∀ sg x2, kc sg x2 = some q → GG p l e rm_Scale_setRows s m args below meth c (QV D shX cy ad below args s q) D shX cy ad (aw shX ad) 4 2 [(0, .ref (ad 29)), (1, .ref (ad 25)), (2, mI x2)] [] sg) (hk38 : ∀ sg , k38 sg  = some q → GG p l e rm_Scale_setRows s m args below meth c (QV D shX cy ad below args s q) D shX cy ad (aw shX ad) 4 38 [(0, .ref (ad 29)), (1, .ref (ad 25))] [] sg) {sg : St} {x2 : Int} (hf : b_Scale_setRows_2  F kc k38 sg x2 = some q) : GG p l e rm_Scale_setRows s m args below meth c (QV D shX cy ad below args s q) D shX cy ad (aw shX ad) 4 2 [(0, .ref (ad 29)), (1, .ref (ad 25)), (2, mI x2)] [] sg := by
  refine r_iload_n X 2 dX9_setRows_2 rfl rfl ?_
  refine r_aload_n X 0 dX9_setRows_3 rfl rfl ?_
  refine r_getI X fl_9_50 k_X_29_2 dX9_setRows_4 ?_
  refine r_icmp_ge (tgt := 38) X dX9_setRows_7 (by decide) (fun hc1 => ?_) (fun hc1 => ?_)
  · have hf := ite_yes hc1 hf
    refine r_perm (lv2 := [(0, .ref (ad 29)), (1, .ref (ad 25))]) [0, 1] rfl ?_
    exact hk38 _ hf
  · have hf := ite_no hc1 hf
    refine r_iconst X dX9_setRows_10 ?_
    refine r_istore_n (lv2 := [(3, mI 0), (0, .ref (ad 29)), (1, .ref (ad 25)), (2, mI x2)]) X dX9_setRows_11 rfl (by decide) rfl ?_
    refine r_perm (lv2 := [(0, .ref (ad 29)), (1, .ref (ad 25)), (2, mI x2), (3, mI 0)]) [1, 2, 3, 0] rfl ?_
    refine l_Scale_setRows_12_ok X ?_ F _ _ _ hf
    · intro s2 x2_3 hf
      refine r_iinc (lv2 := [(2, mI (x2_3 + 1)), (0, .ref (ad 29)), (1, .ref (ad 25))]) X 2 dX9_setRows_32 rfl (by decide) rfl ?_
      refine r_goto (tgt := 2) X dX9_setRows_35 (by decide) ?_
      refine r_perm (lv2 := [(0, .ref (ad 29)), (1, .ref (ad 25)), (2, mI (x2_3 + 1))]) [1, 2, 0] rfl ?_
      exact hkc _ _ hf
set_option maxRecDepth 100000 in
set_option maxHeartbeats 4000000 in
theorem l_Scale_setRows_2_ok {p : Program} {l : Launch} {e : Env} {s : State} {m : MethodId} {args : Array Value} {below : List Frame} {meth : Method} {c : Code} {D : va_G} {cy : Nat → ClassId} {ad : Nat → Nat} (X : CX p s m args meth c cX9_setRows RX9 4 none D shX cy ad (aw shX ad)) {F : Nat} {k38 : St → Option (St)} {q : St} (hk38 : ∀ sg , k38 sg  = some q → GG p l e rm_Scale_setRows s m args below meth c (QV D shX cy ad below args s q) D shX cy ad (aw shX ad) 4 38 [(0, .ref (ad 29)), (1, .ref (ad 25))] [] sg) : ∀ (n : Nat) (sg : St) (x2 : Int), l_Scale_setRows_2  F k38 n sg x2 = some q → GG p l e rm_Scale_setRows s m args below meth c (QV D shX cy ad below args s q) D shX cy ad (aw shX ad) 4 2 [(0, .ref (ad 29)), (1, .ref (ad 25)), (2, mI x2)] [] sg := by
  intro n
  induction n with
  | zero => intro sg x2 h; cases h
  | succ n ih => exact fun sg x2 h => b_Scale_setRows_2_ok X ih hk38 h
set_option maxRecDepth 100000 in
set_option maxHeartbeats 4000000 in
theorem c_Scale_setRows {l : Launch} {F : Nat} {sg : St} {q : St} (hf : f_Scale_setRows F  sg  = some q) : MV l shX yX9_setRows cX9_setRows 4 none rm_Scale_setRows (fun ad => [.ref (ad 29), .ref (ad 25)]) sg q := by
  refine mk_v (by decide) (fun _ => Nat.le_of_ble_eq_true rfl) (fun p e s m args below meth c D cy ad X => ?_)
  have X : CX p s m args meth c cX9_setRows RX9 4 none D shX cy ad (aw shX ad) := X
  refine r_perm (lv2 := [(0, .ref (ad 29)), (1, .ref (ad 25))]) [0, 1] rfl ?_
  refine r_iconst X dX9_setRows_0 ?_
  refine r_istore_n (lv2 := [(2, mI 0), (0, .ref (ad 29)), (1, .ref (ad 25))]) X dX9_setRows_1 rfl (by decide) rfl ?_
  refine r_perm (lv2 := [(0, .ref (ad 29)), (1, .ref (ad 25)), (2, mI 0)]) [1, 2, 0] rfl ?_
  refine l_Scale_setRows_2_ok X ?_ F _ _ hf
  · intro s1  hf
    refine r_iconst X dX9_setRows_38 ?_
    refine r_istore_n (lv2 := [(2, mI 0), (0, .ref (ad 29)), (1, .ref (ad 25))]) X dX9_setRows_39 rfl (by decide) rfl ?_
    refine r_perm (lv2 := [(0, .ref (ad 29)), (1, .ref (ad 25)), (2, mI 0)]) [1, 2, 0] rfl ?_
    refine l_Scale_setRows_40_ok X ?_ F _ _ hf
    · intro s2  hf
      refine r_aload_n X 0 dX9_setRows_58 rfl rfl ?_
      refine r_getI X fl_9_50 k_X_29_2 dX9_setRows_59 ?_
      refine r_iconst X dX9_setRows_62 ?_
      refine r_isub X dX9_setRows_63 ?_
      refine r_istore_n (lv2 := [(2, mI ((s2 29 2) - 1)), (0, .ref (ad 29))]) X dX9_setRows_64 rfl (by decide) rfl ?_
      refine r_iconst X dX9_setRows_65 ?_
      refine r_istore_n (lv2 := [(3, mI 0), (2, mI ((s2 29 2) - 1)), (0, .ref (ad 29))]) X dX9_setRows_66 rfl (by decide) rfl ?_
      refine r_perm (lv2 := [(0, .ref (ad 29)), (2, mI ((s2 29 2) - 1)), (3, mI 0)]) [2, 1, 0] rfl ?_
      refine l_Scale_setRows_67_ok X ?_ F _ _ _ hf
      · intro s3  hf
        exact r_vreturn X hf dX9_setRows_100
set_option maxRecDepth 100000 in
set_option maxHeartbeats 4000000 in
theorem b_Read_takeWord_13_ok {p : Program} {l : Launch} {e : Env} {s : State} {m : MethodId} {args : Array Value} {below : List Frame} {meth : Method} {c : Code} {D : va_G} {cy : Nat → ClassId} {ad : Nat → Nat} (X : CX p s m args meth c cX10_takeWord RX10 2 none D shX cy ad (aw shX ad)) {cs : Nat} (hcs : KSc cs) {F : Nat} {q : St} {sg : St} (hf : b_Read_takeWord_13 cs F  sg  = some q) : GG p l e rm_Read_takeWord s m args below meth c (QV D shX cy ad below args s q) D shX cy ad (aw shX ad) 2 13 [(0, .ref (ad 41))] [] sg := by
  refine r_aload_n X 0 dX10_takeWord_13 rfl rfl ?_
  obtain ⟨q1, hq1, hf⟩ := bd_some hf
  refine r_callVV X (As := []) (st := []) (as := fun ad => [.ref (ad 41)]) (c_Read_step hq1) rfl yw_X10_step yv_X10_step ml_RX10_42 o_X_41 rfl rfl ⟨rfl, rfl⟩ ⟨Nat.le_of_ble_eq_true rfl, Nat.le_of_ble_eq_true rfl⟩ rfl rfl (Nat.le_of_ble_eq_true rfl) dX10_takeWord_14 ?_
  exact r_vreturn X hf dX10_takeWord_17
set_option maxRecDepth 100000 in
set_option maxHeartbeats 4000000 in
theorem c_Read_takeWord {l : Launch} {F : Nat} {cs : Nat} (hcs : KSc cs) {sg : St} {q : St} (hf : f_Read_takeWord F cs sg  = some q) : MV l shX yX10_takeWord cX10_takeWord 2 none rm_Read_takeWord (fun ad => [.ref (ad 41), .ref (ad cs)]) sg q := by
  refine mk_v (by decide) (fun _ => Nat.le_of_ble_eq_true rfl) (fun p e s m args below meth c D cy ad X => ?_)
  have X : CX p s m args meth c cX10_takeWord RX10 2 none D shX cy ad (aw shX ad) := X
  refine r_perm (lv2 := [(0, .ref (ad 41)), (1, .ref (ad cs))]) [0, 1] rfl ?_
  refine r_aload_n X 0 dX10_takeWord_0 rfl rfl ?_
  refine r_aload_n X 1 dX10_takeWord_1 rfl rfl ?_
  obtain ⟨q1, hq1, hf⟩ := bd_some hf
  refine r_callVI X (As := [.ref (ad cs)]) (st := []) (as := fun ad => [.ref (ad 41), .ref (ad cs)]) (c_Read_isWord hcs hq1) rfl yw_X10_isWord yv_X10_isWord ml_RX10_54 o_X_41 rfl rfl ⟨rfl, rfl⟩ ⟨Nat.le_of_ble_eq_true rfl, Nat.le_of_ble_eq_true rfl⟩ rfl rfl (Nat.le_of_ble_eq_true rfl) dX10_takeWord_2 ?_
  refine r_if_ne (tgt := 13) X dX10_takeWord_5 (by decide) (fun hc2 => ?_) (fun hc2 => ?_)
  · have hf := ite_yes hc2 hf
    refine r_aload_n X 0 dX10_takeWord_8 rfl rfl ?_
    refine r_iconst X dX10_takeWord_9 ?_
    obtain ⟨q3, hq3, hf⟩ := bd_some hf
    refine r_callVV X (As := [mI 2]) (st := []) (as := fun ad => [.ref (ad 41), mI 2]) (c_Read_blame hq3) rfl yw_X10_blame yv_X10_blame ml_RX10_58 o_X_41 rfl rfl ⟨rfl, rfl⟩ ⟨Nat.le_of_ble_eq_true rfl, Nat.le_of_ble_eq_true rfl⟩ rfl rfl (Nat.le_of_ble_eq_true rfl) dX10_takeWord_10 ?_
    refine r_perm (lv2 := [(0, .ref (ad 41))]) [0] rfl ?_
    exact b_Read_takeWord_13_ok X hcs  hf
  · have hf := ite_no hc2 hf
    refine r_perm (lv2 := [(0, .ref (ad 41))]) [0] rfl ?_
    exact b_Read_takeWord_13_ok X hcs  hf
set_option maxRecDepth 100000 in
set_option maxHeartbeats 4000000 in
theorem b_Read_takeStop_13_ok {p : Program} {l : Launch} {e : Env} {s : State} {m : MethodId} {args : Array Value} {below : List Frame} {meth : Method} {c : Code} {D : va_G} {cy : Nat → ClassId} {ad : Nat → Nat} (X : CX p s m args meth c cX10_takeStop RX10 1 none D shX cy ad (aw shX ad)) {F : Nat} {q : St} {sg : St} (hf : b_Read_takeStop_13  F  sg  = some q) : GG p l e rm_Read_takeStop s m args below meth c (QV D shX cy ad below args s q) D shX cy ad (aw shX ad) 1 13 [(0, .ref (ad 41))] [] sg := by
  refine r_aload_n X 0 dX10_takeStop_13 rfl rfl ?_
  obtain ⟨q1, hq1, hf⟩ := bd_some hf
  refine r_callVV X (As := []) (st := []) (as := fun ad => [.ref (ad 41)]) (c_Read_step hq1) rfl yw_X10_step yv_X10_step ml_RX10_42 o_X_41 rfl rfl ⟨rfl, rfl⟩ ⟨Nat.le_of_ble_eq_true rfl, Nat.le_of_ble_eq_true rfl⟩ rfl rfl (Nat.le_of_ble_eq_true rfl) dX10_takeStop_14 ?_
  exact r_vreturn X hf dX10_takeStop_17
set_option maxRecDepth 100000 in
set_option maxHeartbeats 4000000 in
theorem c_Read_takeStop {l : Launch} {F : Nat} {sg : St} {q : St} (hf : f_Read_takeStop F  sg  = some q) : MV l shX yX10_takeStop cX10_takeStop 1 none rm_Read_takeStop (fun ad => [.ref (ad 41)]) sg q := by
  refine mk_v (by decide) (fun _ => Nat.le_of_ble_eq_true rfl) (fun p e s m args below meth c D cy ad X => ?_)
  have X : CX p s m args meth c cX10_takeStop RX10 1 none D shX cy ad (aw shX ad) := X
  refine r_perm (lv2 := [(0, .ref (ad 41))]) [0] rfl ?_
  refine r_aload_n X 0 dX10_takeStop_0 rfl rfl ?_
  refine r_getI X fl_10_45 k_X_41_5 dX10_takeStop_1 ?_
  refine r_iconst X dX10_takeStop_4 ?_
  refine r_icmp_eq (tgt := 13) X dX10_takeStop_5 (by decide) (fun hc1 => ?_) (fun hc1 => ?_)
  · have hf := ite_yes hc1 hf
    exact b_Read_takeStop_13_ok X  hf
  · have hf := ite_no hc1 hf
    refine r_aload_n X 0 dX10_takeStop_8 rfl rfl ?_
    refine r_iconst X dX10_takeStop_9 ?_
    obtain ⟨q2, hq2, hf⟩ := bd_some hf
    refine r_callVV X (As := [mI 2]) (st := []) (as := fun ad => [.ref (ad 41), mI 2]) (c_Read_blame hq2) rfl yw_X10_blame yv_X10_blame ml_RX10_58 o_X_41 rfl rfl ⟨rfl, rfl⟩ ⟨Nat.le_of_ble_eq_true rfl, Nat.le_of_ble_eq_true rfl⟩ rfl rfl (Nat.le_of_ble_eq_true rfl) dX10_takeStop_10 ?_
    exact b_Read_takeStop_13_ok X  hf
set_option maxRecDepth 100000 in
set_option maxHeartbeats 4000000 in
theorem b_Read_takeNumber_24_ok {p : Program} {l : Launch} {e : Env} {s : State} {m : MethodId} {args : Array Value} {below : List Frame} {meth : Method} {c : Code} {D : va_G} {cy : Nat → ClassId} {ad : Nat → Nat} (X : CX p s m args meth c cX10_takeNumber RX10 5 (some .int) D shX cy ad (aw shX ad)) {F : Nat} {kc : St → Int → Int → Int → Int → Option (Int × St)} {k55 : St → Int → Int → Int → Option (Int × St)} {q : Int × St} (hkc : ∀ sg x1 x2 x3 x4, kc sg x1 x2 x3 x4 = some q → GG p l e rm_Read_takeNumber s m args below meth c (QI D shX cy ad below args s q) D shX cy ad (aw shX ad) 5 24 [(0, .ref (ad 41)), (1, mI x1), (2, mI x2), (3, mI x3), (4, mI x4)] [] sg) (hk55 : ∀ sg x1 x2 x3, k55 sg x1 x2 x3 = some q → GG p l e rm_Read_takeNumber s m args below meth c (QI D shX cy ad below args s q) D shX cy ad (aw shX ad) 5 55 [(0, .ref (ad 41)), (1, mI x1), (2, mI x2), (3, mI x3)] [] sg) {sg : St} {x1 x2 x3 x4 : Int} (hf : b_Read_takeNumber_24  F kc k55 sg x1 x2 x3 x4 = some q) : GG p l e rm_Read_takeNumber s m args below meth c (QI D shX cy ad below args s q) D shX cy ad (aw shX ad) 5 24 [(0, .ref (ad 41)), (1, mI x1), (2, mI x2), (3, mI x3), (4, mI x4)] [] sg := by
  refine r_iload X 4 dX10_takeNumber_24 rfl ?_
  refine r_aload_n X 0 dX10_takeNumber_26 rfl rfl ?_
  refine r_getI X fl_10_34 k_X_41_7 dX10_takeNumber_27 ?_
  refine r_icmp_ge (tgt := 55) X dX10_takeNumber_30 (by decide) (fun hc1 => ?_) (fun hc1 => ?_)
  · have hf := ite_yes hc1 hf
    refine r_perm (lv2 := [(0, .ref (ad 41)), (1, mI x1), (2, mI x2), (3, mI x3)]) [0, 1, 2, 3] rfl ?_
    exact hk55 _ _ _ _ hf
  · have hf := ite_no hc1 hf
    refine r_iload_n X 3 dX10_takeNumber_33 rfl rfl ?_
    refine r_bipush X dX10_takeNumber_34 (by decide) ?_
    refine r_imul X dX10_takeNumber_36 ?_
    refine r_aload_n X 0 dX10_takeNumber_37 rfl rfl ?_
    refine r_getR X fl_10_18 k_X_41_3 dX10_takeNumber_38 ?_
    refine r_iload X 4 dX10_takeNumber_41 rfl ?_
    obtain ⟨hg2, hf⟩ := gd_some hf
    refine r_bald X a_X_42 hg2 dX10_takeNumber_43 ?_
    refine r_bipush X dX10_takeNumber_44 (by decide) ?_
    refine r_isub X dX10_takeNumber_46 ?_
    refine r_iadd X dX10_takeNumber_47 ?_
    refine r_istore_n (lv2 := [(3, mI ((x3 * 10) + ((sg 42 (ix x4)) - 48))), (0, .ref (ad 41)), (1, mI x1), (2, mI x2), (4, mI x4)]) X dX10_takeNumber_48 rfl (by decide) rfl ?_
    refine r_iinc (lv2 := [(4, mI (x4 + 1)), (3, mI ((x3 * 10) + ((sg 42 (ix x4)) - 48))), (0, .ref (ad 41)), (1, mI x1), (2, mI x2)]) X 4 dX10_takeNumber_49 rfl (by decide) rfl ?_
    refine r_goto (tgt := 24) X dX10_takeNumber_52 (by decide) ?_
    refine r_perm (lv2 := [(0, .ref (ad 41)), (1, mI x1), (2, mI x2), (3, mI ((x3 * 10) + ((sg 42 (ix x4)) - 48))), (4, mI (x4 + 1))]) [2, 3, 4, 1, 0] rfl ?_
    exact hkc _ _ _ _ _ hf
set_option maxRecDepth 100000 in
set_option maxHeartbeats 4000000 in
theorem l_Read_takeNumber_24_ok {p : Program} {l : Launch} {e : Env} {s : State} {m : MethodId} {args : Array Value} {below : List Frame} {meth : Method} {c : Code} {D : va_G} {cy : Nat → ClassId} {ad : Nat → Nat} (X : CX p s m args meth c cX10_takeNumber RX10 5 (some .int) D shX cy ad (aw shX ad)) {F : Nat} {k55 : St → Int → Int → Int → Option (Int × St)} {q : Int × St} (hk55 : ∀ sg x1 x2 x3, k55 sg x1 x2 x3 = some q → GG p l e rm_Read_takeNumber s m args below meth c (QI D shX cy ad below args s q) D shX cy ad (aw shX ad) 5 55 [(0, .ref (ad 41)), (1, mI x1), (2, mI x2), (3, mI x3)] [] sg) : ∀ (n : Nat) (sg : St) (x1 x2 x3 x4 : Int), l_Read_takeNumber_24  F k55 n sg x1 x2 x3 x4 = some q → GG p l e rm_Read_takeNumber s m args below meth c (QI D shX cy ad below args s q) D shX cy ad (aw shX ad) 5 24 [(0, .ref (ad 41)), (1, mI x1), (2, mI x2), (3, mI x3), (4, mI x4)] [] sg := by
  intro n
  induction n with
  | zero => intro sg x1 x2 x3 x4 h; cases h
  | succ n ih => exact fun sg x1 x2 x3 x4 h => b_Read_takeNumber_24_ok X ih hk55 h
set_option maxRecDepth 100000 in
set_option maxHeartbeats 4000000 in
theorem b_Read_takeNumber_69_ok {p : Program} {l : Launch} {e : Env} {s : State} {m : MethodId} {args : Array Value} {below : List Frame} {meth : Method} {c : Code} {D : va_G} {cy : Nat → ClassId} {ad : Nat → Nat} (X : CX p s m args meth c cX10_takeNumber RX10 5 (some .int) D shX cy ad (aw shX ad)) {F : Nat} {q : Int × St} {sg : St} {x3 : Int} (hf : b_Read_takeNumber_69  F  sg x3 = some q) : GG p l e rm_Read_takeNumber s m args below meth c (QI D shX cy ad below args s q) D shX cy ad (aw shX ad) 5 69 [(0, .ref (ad 41)), (3, mI x3)] [] sg := by
  refine r_aload_n X 0 dX10_takeNumber_69 rfl rfl ?_
  obtain ⟨q1, hq1, hf⟩ := bd_some hf
  refine r_callVV X (As := []) (st := []) (as := fun ad => [.ref (ad 41)]) (c_Read_step hq1) rfl yw_X10_step yv_X10_step ml_RX10_42 o_X_41 rfl rfl ⟨rfl, rfl⟩ ⟨Nat.le_of_ble_eq_true rfl, Nat.le_of_ble_eq_true rfl⟩ rfl rfl (Nat.le_of_ble_eq_true rfl) dX10_takeNumber_70 ?_
  refine r_iload_n X 1 dX10_takeNumber_73 rfl rfl ?_
  exact r_ireturn X hf dX10_takeNumber_74
set_option maxRecDepth 100000 in
set_option maxHeartbeats 4000000 in
theorem c_Read_takeNumber {l : Launch} {F : Nat} {sg : St} {x1 x2 : Int} {q : Int × St} (hf : f_Read_takeNumber F  sg x1 x2 = some q) : MI l shX yX10_takeNumber cX10_takeNumber 5 (some .int) rm_Read_takeNumber (fun ad => [.ref (ad 41), mI x1, mI x2]) sg q.2 q.1 := by
  refine mk_i (by decide) (fun _ => Nat.le_of_ble_eq_true rfl) (fun p e s m args below meth c D cy ad X => ?_)
  have X : CX p s m args meth c cX10_takeNumber RX10 5 (some .int) D shX cy ad (aw shX ad) := X
  refine r_perm (lv2 := [(0, .ref (ad 41)), (1, mI x1), (2, mI x2)]) [0, 1, 2] rfl ?_
  refine r_iconst X dX10_takeNumber_0 ?_
  refine r_istore_n (lv2 := [(3, mI 0), (0, .ref (ad 41)), (1, mI x1), (2, mI x2)]) X dX10_takeNumber_1 rfl (by decide) rfl ?_
  refine r_aload_n X 1 dX10_takeNumber_2 rfl rfl ?_
  refine r_getI X fl_10_45 k_X_41_5 dX10_takeNumber_3 ?_
  refine r_iconst X dX10_takeNumber_6 ?_
  refine r_icmp_eq (tgt := 18) X dX10_takeNumber_7 (by decide) (fun hc1 => ?_) (fun hc1 => ?_)
  · have hf := ite_yes hc1 hf
    refine r_aload_n X 1 dX10_takeNumber_18 rfl rfl ?_
    refine r_getI X fl_10_111 k_X_41_6 dX10_takeNumber_19 ?_
    refine r_istore (lv2 := [(4, mI (sg 41 6)), (3, mI 0), (0, .ref (ad 41)), (1, mI x1), (2, mI x2)]) X dX10_takeNumber_22 (by decide) rfl ?_
    refine r_perm (lv2 := [(0, .ref (ad 41)), (1, mI x1), (2, mI x2), (3, mI 0), (4, mI (sg 41 6))]) [2, 3, 4, 1, 0] rfl ?_
    refine l_Read_takeNumber_24_ok X ?_ F _ _ _ _ _ hf
    · intro s3 x1_4 x2_5 x3_6 hf
      refine r_iload_n X 3 dX10_takeNumber_55 rfl rfl ?_
      refine r_iload_n X 1 dX10_takeNumber_56 rfl rfl ?_
      refine r_iload_n X 2 dX10_takeNumber_57 rfl rfl ?_
      obtain ⟨q7, hq7, hf⟩ := bd_some hf
      refine r_callNI X (As := [mI x3_6, mI x1_4, mI x2_5]) (st := []) (as := fun ad => [mI x3_6, mI x1_4, mI x2_5]) (c_H_within hq7) rfl yw_X11_within ys_X11_within ml_RX10_114 ⟨rfl, rfl⟩ ⟨Nat.le_of_ble_eq_true rfl, Nat.le_of_ble_eq_true rfl⟩ rfl rfl (Nat.le_of_ble_eq_true rfl) dX10_takeNumber_58 ?_
      refine r_if_ne (tgt := 69) X dX10_takeNumber_61 (by decide) (fun hc8 => ?_) (fun hc8 => ?_)
      · have hf := ite_yes hc8 hf
        refine r_aload_n X 0 dX10_takeNumber_64 rfl rfl ?_
        refine r_iconst X dX10_takeNumber_65 ?_
        obtain ⟨q9, hq9, hf⟩ := bd_some hf
        refine r_callVV X (As := [mI 4]) (st := []) (as := fun ad => [.ref (ad 41), mI 4]) (c_Read_blame hq9) rfl yw_X10_blame yv_X10_blame ml_RX10_58 o_X_41 rfl rfl ⟨rfl, rfl⟩ ⟨Nat.le_of_ble_eq_true rfl, Nat.le_of_ble_eq_true rfl⟩ rfl rfl (Nat.le_of_ble_eq_true rfl) dX10_takeNumber_66 ?_
        refine r_perm (lv2 := [(0, .ref (ad 41)), (3, mI x3_6)]) [0, 3] rfl ?_
        exact b_Read_takeNumber_69_ok X  hf
      · have hf := ite_no hc8 hf
        refine r_perm (lv2 := [(0, .ref (ad 41)), (3, mI x3_6)]) [0, 3] rfl ?_
        exact b_Read_takeNumber_69_ok X  hf
  · have hf := ite_no hc1 hf
    refine r_aload_n X 1 dX10_takeNumber_10 rfl rfl ?_
    refine r_iconst X dX10_takeNumber_11 ?_
    obtain ⟨q2, hq2, hf⟩ := bd_some hf
    refine r_callVV X (As := [mI 2]) (st := []) (as := fun ad => [.ref (ad 41), mI 2]) (c_Read_blame hq2) rfl yw_X10_blame yv_X10_blame ml_RX10_58 o_X_41 rfl rfl ⟨rfl, rfl⟩ ⟨Nat.le_of_ble_eq_true rfl, Nat.le_of_ble_eq_true rfl⟩ rfl rfl (Nat.le_of_ble_eq_true rfl) dX10_takeNumber_12 ?_
    refine r_goto (tgt := 69) X dX10_takeNumber_15 (by decide) ?_
    refine r_perm (lv2 := [(0, .ref (ad 41)), (3, mI 0)]) [1, 0] rfl ?_
    exact b_Read_takeNumber_69_ok X  hf
