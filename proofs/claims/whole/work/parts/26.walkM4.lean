set_option maxRecDepth 100000 in
set_option maxHeartbeats 4000000 in
theorem c_M_feed {l : Launch} {F : Nat} {sg : St} {x1 x2 x3 x4 x5 : Int} {q : Int × St} (hf : f_M_feed F  sg x1 x2 x3 x4 x5 = some q) : MI l shM yX12_feed cX12_feed 6 (some .int) rm_M_feed (fun ad => [.ref (ad 0), mI x1, mI x2, mI x3, mI x4, mI x5]) sg q.2 q.1 := by
  refine mk_i (by decide) (fun _ => Nat.le_of_ble_eq_true rfl) (fun p e s m args below meth c D cy ad X => ?_)
  have X : CX p s m args meth c cX12_feed RX12 6 (some .int) D shM cy ad (aw shM ad) := X
  refine r_perm (lv2 := [(0, .ref (ad 0)), (1, mI x1), (2, mI x2), (3, mI x3), (4, mI x4), (5, mI x5)]) [0, 1, 2, 3, 4, 5] rfl ?_
  refine r_aload_n X 0 dX12_feed_0 rfl rfl ?_
  refine r_iconst X dX12_feed_1 ?_
  refine r_putI X fp_12_195 k_M_0_1 rfl rfl dX12_feed_2 ?_
  refine r_aload_n X 0 dX12_feed_5 rfl rfl ?_
  refine r_getI X fl_12_378 k_M_0_45 dX12_feed_6 ?_
  refine r_bipush X dX12_feed_9 (by decide) ?_
  refine r_iadd X dX12_feed_11 ?_
  refine r_sipush X dX12_feed_12 (by decide) ?_
  refine r_icmp_le (tgt := 20) X dX12_feed_15 (by decide) (fun hc2 => ?_) (fun hc2 => ?_)
  · have hf := ite_yes hc2 hf
    refine r_aload_n X 0 dX12_feed_20 rfl rfl ?_
    refine r_iload_n X 1 dX12_feed_21 rfl rfl ?_
    obtain ⟨q3, hq3, hf⟩ := bd_some hf
    refine r_callVV X (As := [mI x1]) (st := []) (as := fun ad => [.ref (ad 0), mI x1]) (c_M_lay hq3) rfl yw_X12_lay yv_X12_lay ml_RX12_381 o_M_0 rfl rfl ⟨rfl, rfl⟩ ⟨Nat.le_of_ble_eq_true rfl, Nat.le_of_ble_eq_true rfl⟩ rfl rfl (Nat.le_of_ble_eq_true rfl) dX12_feed_22 ?_
    refine r_aload_n X 0 dX12_feed_25 rfl rfl ?_
    refine r_iload_n X 2 dX12_feed_26 rfl rfl ?_
    obtain ⟨q4, hq4, hf⟩ := bd_some hf
    refine r_callVV X (As := [mI x2]) (st := []) (as := fun ad => [.ref (ad 0), mI x2]) (c_M_lay hq4) rfl yw_X12_lay yv_X12_lay ml_RX12_381 o_M_0 rfl rfl ⟨rfl, rfl⟩ ⟨Nat.le_of_ble_eq_true rfl, Nat.le_of_ble_eq_true rfl⟩ rfl rfl (Nat.le_of_ble_eq_true rfl) dX12_feed_27 ?_
    refine r_aload_n X 0 dX12_feed_30 rfl rfl ?_
    refine r_iload_n X 3 dX12_feed_31 rfl rfl ?_
    obtain ⟨q5, hq5, hf⟩ := bd_some hf
    refine r_callVV X (As := [mI x3]) (st := []) (as := fun ad => [.ref (ad 0), mI x3]) (c_M_lay hq5) rfl yw_X12_lay yv_X12_lay ml_RX12_381 o_M_0 rfl rfl ⟨rfl, rfl⟩ ⟨Nat.le_of_ble_eq_true rfl, Nat.le_of_ble_eq_true rfl⟩ rfl rfl (Nat.le_of_ble_eq_true rfl) dX12_feed_32 ?_
    refine r_aload_n X 0 dX12_feed_35 rfl rfl ?_
    refine r_iload X 4 dX12_feed_36 rfl ?_
    obtain ⟨q6, hq6, hf⟩ := bd_some hf
    refine r_callVV X (As := [mI x4]) (st := []) (as := fun ad => [.ref (ad 0), mI x4]) (c_M_lay hq6) rfl yw_X12_lay yv_X12_lay ml_RX12_381 o_M_0 rfl rfl ⟨rfl, rfl⟩ ⟨Nat.le_of_ble_eq_true rfl, Nat.le_of_ble_eq_true rfl⟩ rfl rfl (Nat.le_of_ble_eq_true rfl) dX12_feed_38 ?_
    refine r_aload_n X 0 dX12_feed_41 rfl rfl ?_
    refine r_iload X 5 dX12_feed_42 rfl ?_
    obtain ⟨q7, hq7, hf⟩ := bd_some hf
    refine r_callVV X (As := [mI x5]) (st := []) (as := fun ad => [.ref (ad 0), mI x5]) (c_M_lay hq7) rfl yw_X12_lay yv_X12_lay ml_RX12_381 o_M_0 rfl rfl ⟨rfl, rfl⟩ ⟨Nat.le_of_ble_eq_true rfl, Nat.le_of_ble_eq_true rfl⟩ rfl rfl (Nat.le_of_ble_eq_true rfl) dX12_feed_44 ?_
    refine r_aload_n X 0 dX12_feed_47 rfl rfl ?_
    refine r_getI X fl_12_378 k_M_0_45 dX12_feed_48 ?_
    exact r_ireturn X hf dX12_feed_51
  · have hf := ite_no hc2 hf
    refine r_iconst X dX12_feed_18 ?_
    exact r_ireturn X hf dX12_feed_19
set_option maxRecDepth 100000 in
set_option maxHeartbeats 4000000 in
theorem b_M_find_190_ok {p : Program} {l : Launch} {e : Env} {s : State} {m : MethodId} {args : Array Value} {below : List Frame} {meth : Method} {c : Code} {D : va_G} {cy : Nat → ClassId} {ad : Nat → Nat} (X : CX p s m args meth c cX12_find RX12 4 (some .int) D shM cy ad (aw shM ad)) {F : Nat} {kc : St → Int → Int → Option (Int × St)} {k167 : St → Int → Int → Option (Int × St)} {k217 : St → Int → Int → Option (Int × St)} {q : Int × St} (hkc : ∀ sg x1 x2, kc sg x1 x2 = some q → GG p l e rm_M_find s m args below meth c (QI D shM cy ad below args s q) D shM cy ad (aw shM ad) 4 190 [(0, .ref (ad 0)), (1, mI x1), (2, mI x2)] [] sg) (hk167 : ∀ sg x1 x2, k167 sg x1 x2 = some q → GG p l e rm_M_find s m args below meth c (QI D shM cy ad below args s q) D shM cy ad (aw shM ad) 4 167 [(0, .ref (ad 0)), (1, mI x1), (2, mI x2)] [] sg) (hk217 : ∀ sg x1 x2, k217 sg x1 x2 = some q → GG p l e rm_M_find s m args below meth c (QI D shM cy ad below args s q) D shM cy ad (aw shM ad) 4 217 [(0, .ref (ad 0)), (1, mI x1), (2, mI x2)] [] sg) {sg : St} {x1 x2 : Int} (hf : b_M_find_190  F kc k167 k217 sg x1 x2 = some q) : GG p l e rm_M_find s m args below meth c (QI D shM cy ad below args s q) D shM cy ad (aw shM ad) 4 190 [(0, .ref (ad 0)), (1, mI x1), (2, mI x2)] [] sg := by
  refine r_aload_n X 0 dX12_find_190 rfl rfl ?_
  refine r_getR X fl_12_61 k_M_0_24 dX12_find_191 ?_
  refine r_iload_n X 2 dX12_find_194 rfl rfl ?_
  obtain ⟨hg1, hf⟩ := gd_some hf
  refine r_iald X a_M_15 hg1 dX12_find_195 ?_
  refine r_aload_n X 0 dX12_find_196 rfl rfl ?_
  refine r_getI X fl_12_13 k_M_0_6 dX12_find_197 ?_
  refine r_icmp_ge (tgt := 217) X dX12_find_200 (by decide) (fun hc2 => ?_) (fun hc2 => ?_)
  · have hf := ite_yes hc2 hf
    exact hk217 _ _ _ hf
  · have hf := ite_no hc2 hf
    refine r_aload_n X 0 dX12_find_203 rfl rfl ?_
    refine r_iload_n X 2 dX12_find_204 rfl rfl ?_
    obtain ⟨q3, hq3, hf⟩ := bd_some hf
    refine r_callVI X (As := [mI x2]) (st := []) (as := fun ad => [.ref (ad 0), mI x2]) (c_M_grows hq3) rfl yw_X12_grows yv_X12_grows ml_RX12_229 o_M_0 rfl rfl ⟨rfl, rfl⟩ ⟨Nat.le_of_ble_eq_true rfl, Nat.le_of_ble_eq_true rfl⟩ rfl rfl (Nat.le_of_ble_eq_true rfl) dX12_find_205 ?_
    refine r_if_eq (tgt := 217) X dX12_find_208 (by decide) (fun hc4 => ?_) (fun hc4 => ?_)
    · have hf := ite_yes hc4 hf
      exact hk217 _ _ _ hf
    · have hf := ite_no hc4 hf
      refine r_iinc (lv2 := [(1, mI (x1 + 1)), (0, .ref (ad 0)), (2, mI x2)]) X 1 dX12_find_211 rfl (by decide) rfl ?_
      refine r_goto (tgt := 190) X dX12_find_214 (by decide) ?_
      refine r_perm (lv2 := [(0, .ref (ad 0)), (1, mI (x1 + 1)), (2, mI x2)]) [1, 0, 2] rfl ?_
      exact hkc _ _ _ hf
set_option maxRecDepth 100000 in
set_option maxHeartbeats 4000000 in
theorem l_M_find_190_ok {p : Program} {l : Launch} {e : Env} {s : State} {m : MethodId} {args : Array Value} {below : List Frame} {meth : Method} {c : Code} {D : va_G} {cy : Nat → ClassId} {ad : Nat → Nat} (X : CX p s m args meth c cX12_find RX12 4 (some .int) D shM cy ad (aw shM ad)) {F : Nat} {k167 : St → Int → Int → Option (Int × St)} {k217 : St → Int → Int → Option (Int × St)} {q : Int × St} (hk167 : ∀ sg x1 x2, k167 sg x1 x2 = some q → GG p l e rm_M_find s m args below meth c (QI D shM cy ad below args s q) D shM cy ad (aw shM ad) 4 167 [(0, .ref (ad 0)), (1, mI x1), (2, mI x2)] [] sg) (hk217 : ∀ sg x1 x2, k217 sg x1 x2 = some q → GG p l e rm_M_find s m args below meth c (QI D shM cy ad below args s q) D shM cy ad (aw shM ad) 4 217 [(0, .ref (ad 0)), (1, mI x1), (2, mI x2)] [] sg) : ∀ (n : Nat) (sg : St) (x1 x2 : Int), l_M_find_190  F k167 k217 n sg x1 x2 = some q → GG p l e rm_M_find s m args below meth c (QI D shM cy ad below args s q) D shM cy ad (aw shM ad) 4 190 [(0, .ref (ad 0)), (1, mI x1), (2, mI x2)] [] sg := by
  intro n
  induction n with
  | zero => intro sg x1 x2 h; cases h
  | succ n ih => exact fun sg x1 x2 h => b_M_find_190_ok X ih hk167 hk217 h
set_option maxRecDepth 100000 in
set_option maxHeartbeats 4000000 in
theorem b_M_find_167_ok {p : Program} {l : Launch} {e : Env} {s : State} {m : MethodId} {args : Array Value} {below : List Frame} {meth : Method} {c : Code} {D : va_G} {cy : Nat → ClassId} {ad : Nat → Nat} (X : CX p s m args meth c cX12_find RX12 4 (some .int) D shM cy ad (aw shM ad)) {F : Nat} {kc : St → Int → Int → Option (Int × St)} {k223 : St → Int → Option (Int × St)} {q : Int × St} (hkc : ∀ sg x1 x2, kc sg x1 x2 = some q → GG p l e rm_M_find s m args below meth c (QI D shM cy ad below args s q) D shM cy ad (aw shM ad) 4 167 [(0, .ref (ad 0)), (1, mI x1), (2, mI x2)] [] sg) (hk223 : ∀ sg x1, k223 sg x1 = some q → GG p l e rm_M_find s m args below meth c (QI D shM cy ad below args s q) D shM cy ad (aw shM ad) 4 223 [(1, mI x1)] [] sg) {sg : St} {x1 x2 : Int} (hf : b_M_find_167  F kc k223 sg x1 x2 = some q) : GG p l e rm_M_find s m args below meth c (QI D shM cy ad below args s q) D shM cy ad (aw shM ad) 4 167 [(0, .ref (ad 0)), (1, mI x1), (2, mI x2)] [] sg := by
  refine r_iload_n X 2 dX12_find_167 rfl rfl ?_
  refine r_aload_n X 0 dX12_find_168 rfl rfl ?_
  refine r_getI X fl_12_205 k_M_0_4 dX12_find_169 ?_
  refine r_icmp_ge (tgt := 223) X dX12_find_172 (by decide) (fun hc1 => ?_) (fun hc1 => ?_)
  · have hf := ite_yes hc1 hf
    refine r_perm (lv2 := [(1, mI x1)]) [1] rfl ?_
    exact hk223 _ _ hf
  · have hf := ite_no hc1 hf
    refine r_aload_n X 0 dX12_find_175 rfl rfl ?_
    refine r_getR X fl_12_61 k_M_0_24 dX12_find_176 ?_
    refine r_iload_n X 2 dX12_find_179 rfl rfl ?_
    obtain ⟨hg2, hf⟩ := gd_some hf
    refine r_iald X a_M_15 hg2 dX12_find_180 ?_
    refine r_aload_n X 0 dX12_find_181 rfl rfl ?_
    refine r_getI X fl_12_13 k_M_0_6 dX12_find_182 ?_
    refine r_icmp_le (tgt := 190) X dX12_find_185 (by decide) (fun hc3 => ?_) (fun hc3 => ?_)
    · have hf := ite_yes hc3 hf
      refine l_M_find_190_ok X ?_ ?_ F _ _ _ hf
      · intro s4 x1_5 x2_6 hf
        exact hkc _ _ _ hf
      · intro s7 x1_8 x2_9 hf
        refine r_iinc (lv2 := [(2, mI (x2_9 + 1)), (0, .ref (ad 0)), (1, mI x1_8)]) X 2 dX12_find_217 rfl (by decide) rfl ?_
        refine r_goto (tgt := 167) X dX12_find_220 (by decide) ?_
        refine r_perm (lv2 := [(0, .ref (ad 0)), (1, mI x1_8), (2, mI (x2_9 + 1))]) [1, 2, 0] rfl ?_
        exact hkc _ _ _ hf
    · have hf := ite_no hc3 hf
      refine r_iconst X dX12_find_188 ?_
      exact r_ireturn X hf dX12_find_189
set_option maxRecDepth 100000 in
set_option maxHeartbeats 4000000 in
theorem l_M_find_167_ok {p : Program} {l : Launch} {e : Env} {s : State} {m : MethodId} {args : Array Value} {below : List Frame} {meth : Method} {c : Code} {D : va_G} {cy : Nat → ClassId} {ad : Nat → Nat} (X : CX p s m args meth c cX12_find RX12 4 (some .int) D shM cy ad (aw shM ad)) {F : Nat} {k223 : St → Int → Option (Int × St)} {q : Int × St} (hk223 : ∀ sg x1, k223 sg x1 = some q → GG p l e rm_M_find s m args below meth c (QI D shM cy ad below args s q) D shM cy ad (aw shM ad) 4 223 [(1, mI x1)] [] sg) : ∀ (n : Nat) (sg : St) (x1 x2 : Int), l_M_find_167  F k223 n sg x1 x2 = some q → GG p l e rm_M_find s m args below meth c (QI D shM cy ad below args s q) D shM cy ad (aw shM ad) 4 167 [(0, .ref (ad 0)), (1, mI x1), (2, mI x2)] [] sg := by
  intro n
  induction n with
  | zero => intro sg x1 x2 h; cases h
  | succ n ih => exact fun sg x1 x2 h => b_M_find_167_ok X ih hk223 h
set_option maxRecDepth 100000 in
set_option maxHeartbeats 4000000 in
theorem b_M_find_134_ok {p : Program} {l : Launch} {e : Env} {s : State} {m : MethodId} {args : Array Value} {below : List Frame} {meth : Method} {c : Code} {D : va_G} {cy : Nat → ClassId} {ad : Nat → Nat} (X : CX p s m args meth c cX12_find RX12 4 (some .int) D shM cy ad (aw shM ad)) {F : Nat} {kc : St → Int → Int → Option (Int × St)} {k165 : St → Int → Option (Int × St)} {q : Int × St} (hkc : ∀ sg x1 x2, kc sg x1 x2 = some q → GG p l e rm_M_find s m args below meth c (QI D shM cy ad below args s q) D shM cy ad (aw shM ad) 4 134 [(0, .ref (ad 0)), (1, mI x1), (2, mI x2)] [] sg) (hk165 : ∀ sg x1, k165 sg x1 = some q → GG p l e rm_M_find s m args below meth c (QI D shM cy ad below args s q) D shM cy ad (aw shM ad) 4 165 [(0, .ref (ad 0)), (1, mI x1)] [] sg) {sg : St} {x1 x2 : Int} (hf : b_M_find_134  F kc k165 sg x1 x2 = some q) : GG p l e rm_M_find s m args below meth c (QI D shM cy ad below args s q) D shM cy ad (aw shM ad) 4 134 [(0, .ref (ad 0)), (1, mI x1), (2, mI x2)] [] sg := by
  refine r_iload_n X 2 dX12_find_134 rfl rfl ?_
  refine r_aload_n X 0 dX12_find_135 rfl rfl ?_
  refine r_getI X fl_12_208 k_M_0_5 dX12_find_136 ?_
  refine r_icmp_ge (tgt := 165) X dX12_find_139 (by decide) (fun hc1 => ?_) (fun hc1 => ?_)
  · have hf := ite_yes hc1 hf
    refine r_perm (lv2 := [(0, .ref (ad 0)), (1, mI x1)]) [0, 1] rfl ?_
    exact hk165 _ _ hf
  · have hf := ite_no hc1 hf
    refine r_aload_n X 0 dX12_find_142 rfl rfl ?_
    refine r_getR X fl_12_64 k_M_0_25 dX12_find_143 ?_
    refine r_iload_n X 2 dX12_find_146 rfl rfl ?_
    obtain ⟨hg2, hf⟩ := gd_some hf
    refine r_iald X a_M_16 hg2 dX12_find_147 ?_
    refine r_aload_n X 0 dX12_find_148 rfl rfl ?_
    refine r_getR X fl_12_36 k_M_0_13 dX12_find_149 ?_
    refine r_iload_n X 2 dX12_find_152 rfl rfl ?_
    obtain ⟨hg3, hf⟩ := gd_some hf
    refine r_iald X a_M_7 hg3 dX12_find_153 ?_
    refine r_icmp_le (tgt := 159) X dX12_find_154 (by decide) (fun hc4 => ?_) (fun hc4 => ?_)
    · have hf := ite_yes hc4 hf
      refine r_iinc (lv2 := [(2, mI (x2 + 1)), (0, .ref (ad 0)), (1, mI x1)]) X 2 dX12_find_159 rfl (by decide) rfl ?_
      refine r_goto (tgt := 134) X dX12_find_162 (by decide) ?_
      refine r_perm (lv2 := [(0, .ref (ad 0)), (1, mI x1), (2, mI (x2 + 1))]) [1, 2, 0] rfl ?_
      exact hkc _ _ _ hf
    · have hf := ite_no hc4 hf
      refine r_iconst X dX12_find_157 ?_
      exact r_ireturn X hf dX12_find_158
set_option maxRecDepth 100000 in
set_option maxHeartbeats 4000000 in
theorem l_M_find_134_ok {p : Program} {l : Launch} {e : Env} {s : State} {m : MethodId} {args : Array Value} {below : List Frame} {meth : Method} {c : Code} {D : va_G} {cy : Nat → ClassId} {ad : Nat → Nat} (X : CX p s m args meth c cX12_find RX12 4 (some .int) D shM cy ad (aw shM ad)) {F : Nat} {k165 : St → Int → Option (Int × St)} {q : Int × St} (hk165 : ∀ sg x1, k165 sg x1 = some q → GG p l e rm_M_find s m args below meth c (QI D shM cy ad below args s q) D shM cy ad (aw shM ad) 4 165 [(0, .ref (ad 0)), (1, mI x1)] [] sg) : ∀ (n : Nat) (sg : St) (x1 x2 : Int), l_M_find_134  F k165 n sg x1 x2 = some q → GG p l e rm_M_find s m args below meth c (QI D shM cy ad below args s q) D shM cy ad (aw shM ad) 4 134 [(0, .ref (ad 0)), (1, mI x1), (2, mI x2)] [] sg := by
  intro n
  induction n with
  | zero => intro sg x1 x2 h; cases h
  | succ n ih => exact fun sg x1 x2 h => b_M_find_134_ok X ih hk165 h
set_option maxRecDepth 100000 in
set_option maxHeartbeats 4000000 in
theorem b_M_find_80_ok {p : Program} {l : Launch} {e : Env} {s : State} {m : MethodId} {args : Array Value} {below : List Frame} {meth : Method} {c : Code} {D : va_G} {cy : Nat → ClassId} {ad : Nat → Nat} (X : CX p s m args meth c cX12_find RX12 4 (some .int) D shM cy ad (aw shM ad)) {F : Nat} {kc : St → Int → Int → Int → Option (Int × St)} {k126 : St → Int → Int → Option (Int × St)} {q : Int × St} (hkc : ∀ sg x1 x2 x3, kc sg x1 x2 x3 = some q → GG p l e rm_M_find s m args below meth c (QI D shM cy ad below args s q) D shM cy ad (aw shM ad) 4 44 [(0, .ref (ad 0)), (1, mI x1), (2, mI x2), (3, mI x3)] [] sg) (hk126 : ∀ sg x1 x2, k126 sg x1 x2 = some q → GG p l e rm_M_find s m args below meth c (QI D shM cy ad below args s q) D shM cy ad (aw shM ad) 4 126 [(0, .ref (ad 0)), (1, mI x1), (2, mI x2)] [] sg) {sg : St} {x1 x2 x3 z0 z1 : Int} (hf : b_M_find_80  F kc k126 sg x1 x2 x3 z0 z1 = some q) : GG p l e rm_M_find s m args below meth c (QI D shM cy ad below args s q) D shM cy ad (aw shM ad) 4 80 [(0, .ref (ad 0)), (1, mI x1), (2, mI x2), (3, mI x3)] [mI z0, mI z1, .ref (ad 10)] sg := by
  obtain ⟨hg1, hf⟩ := gd_some hf
  refine r_zast X a_M_10 hg1 dX12_find_80 ?_
  refine r_aload_n X 0 dX12_find_81 rfl rfl ?_
  refine r_getR X fl_12_46 k_M_0_19 dX12_find_82 ?_
  refine r_iload_n X 2 dX12_find_85 rfl rfl ?_
  refine r_iload_n X 3 dX12_find_86 rfl rfl ?_
  obtain ⟨q3, hq3, hf⟩ := bd_some hf
  refine r_callSI X (As := [mI x2, mI x3]) (st := [.ref (ad 10)]) (as := fun ad => [mI x2, mI x3]) (c_M_at hq3) rfl yw_X12_at ys_X12_at ml_RX12_225 ⟨rfl, rfl⟩ ⟨Nat.le_of_ble_eq_true rfl, Nat.le_of_ble_eq_true rfl⟩ rfl rfl (Nat.le_of_ble_eq_true rfl) dX12_find_87 ?_
  obtain ⟨hg4, hf⟩ := gd_some hf
  refine r_zald X a_M_10 hg4 dX12_find_90 ?_
  refine r_if_ne (tgt := 97) X dX12_find_91 (by decide) (fun hc5 => ?_) (fun hc5 => ?_)
  · have hf := ite_yes hc5 hf
    refine r_goto (tgt := 120) X dX12_find_94 (by decide) ?_
    refine r_iinc (lv2 := [(3, mI (x3 + 1)), (0, .ref (ad 0)), (1, mI x1), (2, mI x2)]) X 3 dX12_find_120 rfl (by decide) rfl ?_
    refine r_goto (tgt := 44) X dX12_find_123 (by decide) ?_
    refine r_perm (lv2 := [(0, .ref (ad 0)), (1, mI x1), (2, mI x2), (3, mI (x3 + 1))]) [1, 2, 3, 0] rfl ?_
    exact hkc _ _ _ _ hf
  · have hf := ite_no hc5 hf
    refine r_aload_n X 0 dX12_find_97 rfl rfl ?_
    refine r_getR X fl_12_61 k_M_0_24 dX12_find_98 ?_
    refine r_iload_n X 2 dX12_find_101 rfl rfl ?_
    refine r_dup2 X dX12_find_102 rfl rfl ?_
    obtain ⟨hg6, hf⟩ := gd_some hf
    refine r_iald X a_M_15 hg6 dX12_find_103 ?_
    refine r_iconst X dX12_find_104 ?_
    refine r_iadd X dX12_find_105 ?_
    obtain ⟨hg7, hf⟩ := gd_some hf
    refine r_iast X a_M_15 hg7 dX12_find_106 ?_
    refine r_aload_n X 0 dX12_find_107 rfl rfl ?_
    refine r_getR X fl_12_64 k_M_0_25 dX12_find_108 ?_
    refine r_iload_n X 3 dX12_find_111 rfl rfl ?_
    refine r_dup2 X dX12_find_112 rfl rfl ?_
    obtain ⟨hg9, hf⟩ := gd_some hf
    refine r_iald X a_M_16 hg9 dX12_find_113 ?_
    refine r_iconst X dX12_find_114 ?_
    refine r_iadd X dX12_find_115 ?_
    obtain ⟨hg10, hf⟩ := gd_some hf
    refine r_iast X a_M_16 hg10 dX12_find_116 ?_
    refine r_iinc (lv2 := [(1, mI (x1 + 1)), (0, .ref (ad 0)), (2, mI x2), (3, mI x3)]) X 1 dX12_find_117 rfl (by decide) rfl ?_
    refine r_iinc (lv2 := [(3, mI (x3 + 1)), (1, mI (x1 + 1)), (0, .ref (ad 0)), (2, mI x2)]) X 3 dX12_find_120 rfl (by decide) rfl ?_
    refine r_goto (tgt := 44) X dX12_find_123 (by decide) ?_
    refine r_perm (lv2 := [(0, .ref (ad 0)), (1, mI (x1 + 1)), (2, mI x2), (3, mI (x3 + 1))]) [2, 1, 3, 0] rfl ?_
    exact hkc _ _ _ _ hf
set_option maxRecDepth 100000 in
set_option maxHeartbeats 4000000 in
theorem b_M_find_44_ok {p : Program} {l : Launch} {e : Env} {s : State} {m : MethodId} {args : Array Value} {below : List Frame} {meth : Method} {c : Code} {D : va_G} {cy : Nat → ClassId} {ad : Nat → Nat} (X : CX p s m args meth c cX12_find RX12 4 (some .int) D shM cy ad (aw shM ad)) {F : Nat} {kc : St → Int → Int → Int → Option (Int × St)} {k126 : St → Int → Int → Option (Int × St)} {q : Int × St} (hkc : ∀ sg x1 x2 x3, kc sg x1 x2 x3 = some q → GG p l e rm_M_find s m args below meth c (QI D shM cy ad below args s q) D shM cy ad (aw shM ad) 4 44 [(0, .ref (ad 0)), (1, mI x1), (2, mI x2), (3, mI x3)] [] sg) (hk126 : ∀ sg x1 x2, k126 sg x1 x2 = some q → GG p l e rm_M_find s m args below meth c (QI D shM cy ad below args s q) D shM cy ad (aw shM ad) 4 126 [(0, .ref (ad 0)), (1, mI x1), (2, mI x2)] [] sg) {sg : St} {x1 x2 x3 : Int} (hf : b_M_find_44  F kc k126 sg x1 x2 x3 = some q) : GG p l e rm_M_find s m args below meth c (QI D shM cy ad below args s q) D shM cy ad (aw shM ad) 4 44 [(0, .ref (ad 0)), (1, mI x1), (2, mI x2), (3, mI x3)] [] sg := by
  refine r_iload_n X 3 dX12_find_44 rfl rfl ?_
  refine r_aload_n X 0 dX12_find_45 rfl rfl ?_
  refine r_getI X fl_12_208 k_M_0_5 dX12_find_46 ?_
  refine r_icmp_ge (tgt := 126) X dX12_find_49 (by decide) (fun hc1 => ?_) (fun hc1 => ?_)
  · have hf := ite_yes hc1 hf
    refine r_perm (lv2 := [(0, .ref (ad 0)), (1, mI x1), (2, mI x2)]) [0, 1, 2] rfl ?_
    exact hk126 _ _ _ hf
  · have hf := ite_no hc1 hf
    refine r_aload_n X 0 dX12_find_52 rfl rfl ?_
    refine r_getR X fl_12_46 k_M_0_19 dX12_find_53 ?_
    refine r_iload_n X 2 dX12_find_56 rfl rfl ?_
    refine r_iload_n X 3 dX12_find_57 rfl rfl ?_
    obtain ⟨q2, hq2, hf⟩ := bd_some hf
    refine r_callSI X (As := [mI x2, mI x3]) (st := [.ref (ad 10)]) (as := fun ad => [mI x2, mI x3]) (c_M_at hq2) rfl yw_X12_at ys_X12_at ml_RX12_225 ⟨rfl, rfl⟩ ⟨Nat.le_of_ble_eq_true rfl, Nat.le_of_ble_eq_true rfl⟩ rfl rfl (Nat.le_of_ble_eq_true rfl) dX12_find_58 ?_
    refine r_aload_n X 0 dX12_find_61 rfl rfl ?_
    refine r_getR X fl_12_58 k_M_0_23 dX12_find_62 ?_
    refine r_iload_n X 2 dX12_find_65 rfl rfl ?_
    refine r_iload_n X 3 dX12_find_66 rfl rfl ?_
    obtain ⟨q3, hq3, hf⟩ := bd_some hf
    refine r_callSI X (As := [mI x2, mI x3]) (st := [.ref (ad 14), mI q2.1, .ref (ad 10)]) (as := fun ad => [mI x2, mI x3]) (c_M_at hq3) rfl yw_X12_at ys_X12_at ml_RX12_225 ⟨rfl, rfl⟩ ⟨Nat.le_of_ble_eq_true rfl, Nat.le_of_ble_eq_true rfl⟩ rfl rfl (Nat.le_of_ble_eq_true rfl) dX12_find_67 ?_
    obtain ⟨hg4, hf⟩ := gd_some hf
    refine r_iald X a_M_14 hg4 dX12_find_70 ?_
    refine r_iconst X dX12_find_71 ?_
    refine r_icmp_ne (tgt := 79) X dX12_find_72 (by decide) (fun hc5 => ?_) (fun hc5 => ?_)
    · have hf := ite_yes hc5 hf
      refine r_iconst X dX12_find_75 ?_
      refine r_goto (tgt := 80) X dX12_find_76 (by decide) ?_
      exact b_M_find_80_ok X hkc hk126 hf
    · have hf := ite_no hc5 hf
      refine r_iconst X dX12_find_79 ?_
      exact b_M_find_80_ok X hkc hk126 hf
set_option maxRecDepth 100000 in
set_option maxHeartbeats 4000000 in
theorem l_M_find_44_ok {p : Program} {l : Launch} {e : Env} {s : State} {m : MethodId} {args : Array Value} {below : List Frame} {meth : Method} {c : Code} {D : va_G} {cy : Nat → ClassId} {ad : Nat → Nat} (X : CX p s m args meth c cX12_find RX12 4 (some .int) D shM cy ad (aw shM ad)) {F : Nat} {k126 : St → Int → Int → Option (Int × St)} {q : Int × St} (hk126 : ∀ sg x1 x2, k126 sg x1 x2 = some q → GG p l e rm_M_find s m args below meth c (QI D shM cy ad below args s q) D shM cy ad (aw shM ad) 4 126 [(0, .ref (ad 0)), (1, mI x1), (2, mI x2)] [] sg) : ∀ (n : Nat) (sg : St) (x1 x2 x3 : Int), l_M_find_44  F k126 n sg x1 x2 x3 = some q → GG p l e rm_M_find s m args below meth c (QI D shM cy ad below args s q) D shM cy ad (aw shM ad) 4 44 [(0, .ref (ad 0)), (1, mI x1), (2, mI x2), (3, mI x3)] [] sg := by
  intro n
  induction n with
  | zero => intro sg x1 x2 x3 h; cases h
  | succ n ih => exact fun sg x1 x2 x3 h => b_M_find_44_ok X ih hk126 h
set_option maxRecDepth 100000 in
set_option maxHeartbeats 4000000 in
theorem b_M_find_27_ok {p : Program} {l : Launch} {e : Env} {s : State} {m : MethodId} {args : Array Value} {below : List Frame} {meth : Method} {c : Code} {D : va_G} {cy : Nat → ClassId} {ad : Nat → Nat} (X : CX p s m args meth c cX12_find RX12 4 (some .int) D shM cy ad (aw shM ad)) {F : Nat} {kc : St → Int → Int → Option (Int × St)} {k132 : St → Int → Option (Int × St)} {q : Int × St} (hkc : ∀ sg x1 x2, kc sg x1 x2 = some q → GG p l e rm_M_find s m args below meth c (QI D shM cy ad below args s q) D shM cy ad (aw shM ad) 4 27 [(0, .ref (ad 0)), (1, mI x1), (2, mI x2)] [] sg) (hk132 : ∀ sg x1, k132 sg x1 = some q → GG p l e rm_M_find s m args below meth c (QI D shM cy ad below args s q) D shM cy ad (aw shM ad) 4 132 [(0, .ref (ad 0)), (1, mI x1)] [] sg) {sg : St} {x1 x2 : Int} (hf : b_M_find_27  F kc k132 sg x1 x2 = some q) : GG p l e rm_M_find s m args below meth c (QI D shM cy ad below args s q) D shM cy ad (aw shM ad) 4 27 [(0, .ref (ad 0)), (1, mI x1), (2, mI x2)] [] sg := by
  refine r_iload_n X 2 dX12_find_27 rfl rfl ?_
  refine r_aload_n X 0 dX12_find_28 rfl rfl ?_
  refine r_getI X fl_12_205 k_M_0_4 dX12_find_29 ?_
  refine r_icmp_ge (tgt := 132) X dX12_find_32 (by decide) (fun hc1 => ?_) (fun hc1 => ?_)
  · have hf := ite_yes hc1 hf
    refine r_perm (lv2 := [(0, .ref (ad 0)), (1, mI x1)]) [0, 1] rfl ?_
    exact hk132 _ _ hf
  · have hf := ite_no hc1 hf
    refine r_aload_n X 0 dX12_find_35 rfl rfl ?_
    refine r_getR X fl_12_61 k_M_0_24 dX12_find_36 ?_
    refine r_iload_n X 2 dX12_find_39 rfl rfl ?_
    refine r_iconst X dX12_find_40 ?_
    obtain ⟨hg2, hf⟩ := gd_some hf
    refine r_iast X a_M_15 hg2 dX12_find_41 ?_
    refine r_iconst X dX12_find_42 ?_
    refine r_istore_n (lv2 := [(3, mI 0), (0, .ref (ad 0)), (1, mI x1), (2, mI x2)]) X dX12_find_43 rfl (by decide) rfl ?_
    refine r_perm (lv2 := [(0, .ref (ad 0)), (1, mI x1), (2, mI x2), (3, mI 0)]) [1, 2, 3, 0] rfl ?_
    refine l_M_find_44_ok X ?_ F _ _ _ _ hf
    · intro s4 x1_5 x2_6 hf
      refine r_iinc (lv2 := [(2, mI (x2_6 + 1)), (0, .ref (ad 0)), (1, mI x1_5)]) X 2 dX12_find_126 rfl (by decide) rfl ?_
      refine r_goto (tgt := 27) X dX12_find_129 (by decide) ?_
      refine r_perm (lv2 := [(0, .ref (ad 0)), (1, mI x1_5), (2, mI (x2_6 + 1))]) [1, 2, 0] rfl ?_
      exact hkc _ _ _ hf
set_option maxRecDepth 100000 in
set_option maxHeartbeats 4000000 in
theorem l_M_find_27_ok {p : Program} {l : Launch} {e : Env} {s : State} {m : MethodId} {args : Array Value} {below : List Frame} {meth : Method} {c : Code} {D : va_G} {cy : Nat → ClassId} {ad : Nat → Nat} (X : CX p s m args meth c cX12_find RX12 4 (some .int) D shM cy ad (aw shM ad)) {F : Nat} {k132 : St → Int → Option (Int × St)} {q : Int × St} (hk132 : ∀ sg x1, k132 sg x1 = some q → GG p l e rm_M_find s m args below meth c (QI D shM cy ad below args s q) D shM cy ad (aw shM ad) 4 132 [(0, .ref (ad 0)), (1, mI x1)] [] sg) : ∀ (n : Nat) (sg : St) (x1 x2 : Int), l_M_find_27  F k132 n sg x1 x2 = some q → GG p l e rm_M_find s m args below meth c (QI D shM cy ad below args s q) D shM cy ad (aw shM ad) 4 27 [(0, .ref (ad 0)), (1, mI x1), (2, mI x2)] [] sg := by
  intro n
  induction n with
  | zero => intro sg x1 x2 h; cases h
  | succ n ih => exact fun sg x1 x2 h => b_M_find_27_ok X ih hk132 h
set_option maxRecDepth 100000 in
set_option maxHeartbeats 4000000 in
theorem b_M_find_4_ok {p : Program} {l : Launch} {e : Env} {s : State} {m : MethodId} {args : Array Value} {below : List Frame} {meth : Method} {c : Code} {D : va_G} {cy : Nat → ClassId} {ad : Nat → Nat} (X : CX p s m args meth c cX12_find RX12 4 (some .int) D shM cy ad (aw shM ad)) {F : Nat} {kc : St → Int → Int → Option (Int × St)} {k25 : St → Int → Option (Int × St)} {q : Int × St} (hkc : ∀ sg x1 x2, kc sg x1 x2 = some q → GG p l e rm_M_find s m args below meth c (QI D shM cy ad below args s q) D shM cy ad (aw shM ad) 4 4 [(0, .ref (ad 0)), (1, mI x1), (2, mI x2)] [] sg) (hk25 : ∀ sg x1, k25 sg x1 = some q → GG p l e rm_M_find s m args below meth c (QI D shM cy ad below args s q) D shM cy ad (aw shM ad) 4 25 [(0, .ref (ad 0)), (1, mI x1)] [] sg) {sg : St} {x1 x2 : Int} (hf : b_M_find_4  F kc k25 sg x1 x2 = some q) : GG p l e rm_M_find s m args below meth c (QI D shM cy ad below args s q) D shM cy ad (aw shM ad) 4 4 [(0, .ref (ad 0)), (1, mI x1), (2, mI x2)] [] sg := by
  refine r_iload_n X 2 dX12_find_4 rfl rfl ?_
  refine r_aload_n X 0 dX12_find_5 rfl rfl ?_
  refine r_getI X fl_12_208 k_M_0_5 dX12_find_6 ?_
  refine r_icmp_ge (tgt := 25) X dX12_find_9 (by decide) (fun hc1 => ?_) (fun hc1 => ?_)
  · have hf := ite_yes hc1 hf
    refine r_perm (lv2 := [(0, .ref (ad 0)), (1, mI x1)]) [0, 1] rfl ?_
    exact hk25 _ _ hf
  · have hf := ite_no hc1 hf
    refine r_aload_n X 0 dX12_find_12 rfl rfl ?_
    refine r_getR X fl_12_64 k_M_0_25 dX12_find_13 ?_
    refine r_iload_n X 2 dX12_find_16 rfl rfl ?_
    refine r_iconst X dX12_find_17 ?_
    obtain ⟨hg2, hf⟩ := gd_some hf
    refine r_iast X a_M_16 hg2 dX12_find_18 ?_
    refine r_iinc (lv2 := [(2, mI (x2 + 1)), (0, .ref (ad 0)), (1, mI x1)]) X 2 dX12_find_19 rfl (by decide) rfl ?_
    refine r_goto (tgt := 4) X dX12_find_22 (by decide) ?_
    refine r_perm (lv2 := [(0, .ref (ad 0)), (1, mI x1), (2, mI (x2 + 1))]) [1, 2, 0] rfl ?_
    exact hkc _ _ _ hf
set_option maxRecDepth 100000 in
set_option maxHeartbeats 4000000 in
theorem l_M_find_4_ok {p : Program} {l : Launch} {e : Env} {s : State} {m : MethodId} {args : Array Value} {below : List Frame} {meth : Method} {c : Code} {D : va_G} {cy : Nat → ClassId} {ad : Nat → Nat} (X : CX p s m args meth c cX12_find RX12 4 (some .int) D shM cy ad (aw shM ad)) {F : Nat} {k25 : St → Int → Option (Int × St)} {q : Int × St} (hk25 : ∀ sg x1, k25 sg x1 = some q → GG p l e rm_M_find s m args below meth c (QI D shM cy ad below args s q) D shM cy ad (aw shM ad) 4 25 [(0, .ref (ad 0)), (1, mI x1)] [] sg) : ∀ (n : Nat) (sg : St) (x1 x2 : Int), l_M_find_4  F k25 n sg x1 x2 = some q → GG p l e rm_M_find s m args below meth c (QI D shM cy ad below args s q) D shM cy ad (aw shM ad) 4 4 [(0, .ref (ad 0)), (1, mI x1), (2, mI x2)] [] sg := by
  intro n
  induction n with
  | zero => intro sg x1 x2 h; cases h
  | succ n ih => exact fun sg x1 x2 h => b_M_find_4_ok X ih hk25 h
set_option maxRecDepth 100000 in
set_option maxHeartbeats 4000000 in
theorem c_M_find {l : Launch} {F : Nat} {sg : St} {q : Int × St} (hf : f_M_find F  sg  = some q) : MI l shM yX12_find cX12_find 4 (some .int) rm_M_find (fun ad => [.ref (ad 0)]) sg q.2 q.1 := by
  refine mk_i (by decide) (fun _ => Nat.le_of_ble_eq_true rfl) (fun p e s m args below meth c D cy ad X => ?_)
  have X : CX p s m args meth c cX12_find RX12 4 (some .int) D shM cy ad (aw shM ad) := X
  refine r_perm (lv2 := [(0, .ref (ad 0))]) [0] rfl ?_
  refine r_iconst X dX12_find_0 ?_
  refine r_istore_n (lv2 := [(1, mI 0), (0, .ref (ad 0))]) X dX12_find_1 rfl (by decide) rfl ?_
  refine r_iconst X dX12_find_2 ?_
  refine r_istore_n (lv2 := [(2, mI 0), (1, mI 0), (0, .ref (ad 0))]) X dX12_find_3 rfl (by decide) rfl ?_
  refine r_perm (lv2 := [(0, .ref (ad 0)), (1, mI 0), (2, mI 0)]) [2, 1, 0] rfl ?_
  refine l_M_find_4_ok X ?_ F _ _ _ hf
  · intro s1 x1_2 hf
    refine r_iconst X dX12_find_25 ?_
    refine r_istore_n (lv2 := [(2, mI 0), (0, .ref (ad 0)), (1, mI x1_2)]) X dX12_find_26 rfl (by decide) rfl ?_
    refine r_perm (lv2 := [(0, .ref (ad 0)), (1, mI x1_2), (2, mI 0)]) [1, 2, 0] rfl ?_
    refine l_M_find_27_ok X ?_ F _ _ _ hf
    · intro s3 x1_4 hf
      refine r_iconst X dX12_find_132 ?_
      refine r_istore_n (lv2 := [(2, mI 0), (0, .ref (ad 0)), (1, mI x1_4)]) X dX12_find_133 rfl (by decide) rfl ?_
      refine r_perm (lv2 := [(0, .ref (ad 0)), (1, mI x1_4), (2, mI 0)]) [1, 2, 0] rfl ?_
      refine l_M_find_134_ok X ?_ F _ _ _ hf
      · intro s5 x1_6 hf
        refine r_iconst X dX12_find_165 ?_
        refine r_istore_n (lv2 := [(2, mI 0), (0, .ref (ad 0)), (1, mI x1_6)]) X dX12_find_166 rfl (by decide) rfl ?_
        refine r_perm (lv2 := [(0, .ref (ad 0)), (1, mI x1_6), (2, mI 0)]) [1, 2, 0] rfl ?_
        refine l_M_find_167_ok X ?_ F _ _ _ hf
        · intro s7 x1_8 hf
          refine r_iload_n X 0 dX12_find_223 rfl rfl ?_
          exact r_ireturn X hf dX12_find_224
set_option maxRecDepth 100000 in
set_option maxHeartbeats 4000000 in
theorem b_M_plan_314_ok {p : Program} {l : Launch} {e : Env} {s : State} {m : MethodId} {args : Array Value} {below : List Frame} {meth : Method} {c : Code} {D : va_G} {cy : Nat → ClassId} {ad : Nat → Nat} (X : CX p s m args meth c cX12_plan RX12 6 (some .int) D shM cy ad (aw shM ad)) {F : Nat} {kc : St → Int → Int → Int → Int → Int → Option (Int × St)} {k367 : St → Int → Int → Int → Int → Option (Int × St)} {q : Int × St} (hkc : ∀ sg x1 x2 x3 x4 x5, kc sg x1 x2 x3 x4 x5 = some q → GG p l e rm_M_plan s m args below meth c (QI D shM cy ad below args s q) D shM cy ad (aw shM ad) 6 314 [(0, .ref (ad 0)), (1, mI x1), (2, mI x2), (3, mI x3), (4, mI x4), (5, mI x5)] [] sg) (hk367 : ∀ sg x1 x2 x3 x4, k367 sg x1 x2 x3 x4 = some q → GG p l e rm_M_plan s m args below meth c (QI D shM cy ad below args s q) D shM cy ad (aw shM ad) 6 367 [(0, .ref (ad 0)), (1, mI x1), (2, mI x2), (3, mI x3), (4, mI x4)] [] sg) {sg : St} {x1 x2 x3 x4 x5 : Int} (hf : b_M_plan_314  F kc k367 sg x1 x2 x3 x4 x5 = some q) : GG p l e rm_M_plan s m args below meth c (QI D shM cy ad below args s q) D shM cy ad (aw shM ad) 6 314 [(0, .ref (ad 0)), (1, mI x1), (2, mI x2), (3, mI x3), (4, mI x4), (5, mI x5)] [] sg := by
  refine r_iload X 5 dX12_plan_314 rfl ?_
  refine r_aload_n X 0 dX12_plan_316 rfl rfl ?_
  refine r_getI X fl_12_205 k_M_0_4 dX12_plan_317 ?_
  refine r_icmp_ge (tgt := 367) X dX12_plan_320 (by decide) (fun hc1 => ?_) (fun hc1 => ?_)
  · have hf := ite_yes hc1 hf
    refine r_perm (lv2 := [(0, .ref (ad 0)), (1, mI x1), (2, mI x2), (3, mI x3), (4, mI x4)]) [0, 1, 2, 3, 4] rfl ?_
    exact hk367 _ _ _ _ _ hf
  · have hf := ite_no hc1 hf
    refine r_aload_n X 0 dX12_plan_323 rfl rfl ?_
    refine r_getR X fl_12_43 k_M_0_18 dX12_plan_324 ?_
    refine r_iload X 5 dX12_plan_327 rfl ?_
    refine r_iload X 4 dX12_plan_329 rfl ?_
    obtain ⟨q2, hq2, hf⟩ := bd_some hf
    refine r_callSI X (As := [mI x5, mI x4]) (st := [.ref (ad 9)]) (as := fun ad => [mI x5, mI x4]) (c_M_at hq2) rfl yw_X12_at ys_X12_at ml_RX12_225 ⟨rfl, rfl⟩ ⟨Nat.le_of_ble_eq_true rfl, Nat.le_of_ble_eq_true rfl⟩ rfl rfl (Nat.le_of_ble_eq_true rfl) dX12_plan_331 ?_
    obtain ⟨hg3, hf⟩ := gd_some hf
    refine r_zald X a_M_9 hg3 dX12_plan_334 ?_
    refine r_if_eq (tgt := 361) X dX12_plan_335 (by decide) (fun hc4 => ?_) (fun hc4 => ?_)
    · have hf := ite_yes hc4 hf
      refine r_iinc (lv2 := [(5, mI (x5 + 1)), (0, .ref (ad 0)), (1, mI x1), (2, mI x2), (3, mI x3), (4, mI x4)]) X 5 dX12_plan_361 rfl (by decide) rfl ?_
      refine r_goto (tgt := 314) X dX12_plan_364 (by decide) ?_
      refine r_perm (lv2 := [(0, .ref (ad 0)), (1, mI x1), (2, mI x2), (3, mI x3), (4, mI x4), (5, mI (x5 + 1))]) [1, 2, 3, 4, 5, 0] rfl ?_
      exact hkc _ _ _ _ _ _ hf
    · have hf := ite_no hc4 hf
      refine r_aload_n X 0 dX12_plan_338 rfl rfl ?_
      refine r_getR X fl_12_49 k_M_0_20 dX12_plan_339 ?_
      refine r_iload X 5 dX12_plan_342 rfl ?_
      obtain ⟨hg5, hf⟩ := gd_some hf
      refine r_zald X a_M_11 hg5 dX12_plan_344 ?_
      refine r_if_eq (tgt := 351) X dX12_plan_345 (by decide) (fun hc6 => ?_) (fun hc6 => ?_)
      · have hf := ite_yes hc6 hf
        refine r_aload_n X 0 dX12_plan_351 rfl rfl ?_
        refine r_getR X fl_12_49 k_M_0_20 dX12_plan_352 ?_
        refine r_iload X 5 dX12_plan_355 rfl ?_
        refine r_iconst X dX12_plan_357 ?_
        obtain ⟨hg7, hf⟩ := gd_some hf
        refine r_zast X a_M_11 hg7 dX12_plan_358 ?_
        refine r_iconst X dX12_plan_359 ?_
        refine r_istore_n (lv2 := [(2, mI 1), (0, .ref (ad 0)), (1, mI x1), (3, mI x3), (4, mI x4), (5, mI x5)]) X dX12_plan_360 rfl (by decide) rfl ?_
        refine r_iinc (lv2 := [(5, mI (x5 + 1)), (2, mI 1), (0, .ref (ad 0)), (1, mI x1), (3, mI x3), (4, mI x4)]) X 5 dX12_plan_361 rfl (by decide) rfl ?_
        refine r_goto (tgt := 314) X dX12_plan_364 (by decide) ?_
        refine r_perm (lv2 := [(0, .ref (ad 0)), (1, mI x1), (2, mI 1), (3, mI x3), (4, mI x4), (5, mI (x5 + 1))]) [2, 3, 1, 4, 5, 0] rfl ?_
        exact hkc _ _ _ _ _ _ hf
      · have hf := ite_no hc6 hf
        refine r_goto (tgt := 361) X dX12_plan_348 (by decide) ?_
        refine r_iinc (lv2 := [(5, mI (x5 + 1)), (0, .ref (ad 0)), (1, mI x1), (2, mI x2), (3, mI x3), (4, mI x4)]) X 5 dX12_plan_361 rfl (by decide) rfl ?_
        refine r_goto (tgt := 314) X dX12_plan_364 (by decide) ?_
        refine r_perm (lv2 := [(0, .ref (ad 0)), (1, mI x1), (2, mI x2), (3, mI x3), (4, mI x4), (5, mI (x5 + 1))]) [1, 2, 3, 4, 5, 0] rfl ?_
        exact hkc _ _ _ _ _ _ hf
set_option maxRecDepth 100000 in
set_option maxHeartbeats 4000000 in
theorem l_M_plan_314_ok {p : Program} {l : Launch} {e : Env} {s : State} {m : MethodId} {args : Array Value} {below : List Frame} {meth : Method} {c : Code} {D : va_G} {cy : Nat → ClassId} {ad : Nat → Nat} (X : CX p s m args meth c cX12_plan RX12 6 (some .int) D shM cy ad (aw shM ad)) {F : Nat} {k367 : St → Int → Int → Int → Int → Option (Int × St)} {q : Int × St} (hk367 : ∀ sg x1 x2 x3 x4, k367 sg x1 x2 x3 x4 = some q → GG p l e rm_M_plan s m args below meth c (QI D shM cy ad below args s q) D shM cy ad (aw shM ad) 6 367 [(0, .ref (ad 0)), (1, mI x1), (2, mI x2), (3, mI x3), (4, mI x4)] [] sg) : ∀ (n : Nat) (sg : St) (x1 x2 x3 x4 x5 : Int), l_M_plan_314  F k367 n sg x1 x2 x3 x4 x5 = some q → GG p l e rm_M_plan s m args below meth c (QI D shM cy ad below args s q) D shM cy ad (aw shM ad) 6 314 [(0, .ref (ad 0)), (1, mI x1), (2, mI x2), (3, mI x3), (4, mI x4), (5, mI x5)] [] sg := by
  intro n
  induction n with
  | zero => intro sg x1 x2 x3 x4 x5 h; cases h
  | succ n ih => exact fun sg x1 x2 x3 x4 x5 h => b_M_plan_314_ok X ih hk367 h
set_option maxRecDepth 100000 in
set_option maxHeartbeats 4000000 in
theorem b_M_plan_266_ok {p : Program} {l : Launch} {e : Env} {s : State} {m : MethodId} {args : Array Value} {below : List Frame} {meth : Method} {c : Code} {D : va_G} {cy : Nat → ClassId} {ad : Nat → Nat} (X : CX p s m args meth c cX12_plan RX12 6 (some .int) D shM cy ad (aw shM ad)) {F : Nat} {kc : St → Int → Int → Int → Int → Option (Int × St)} {k255 : St → Int → Int → Int → Option (Int × St)} {k373 : St → Int → Int → Int → Option (Int × St)} {q : Int × St} (hkc : ∀ sg x1 x2 x3 x4, kc sg x1 x2 x3 x4 = some q → GG p l e rm_M_plan s m args below meth c (QI D shM cy ad below args s q) D shM cy ad (aw shM ad) 6 266 [(0, .ref (ad 0)), (1, mI x1), (2, mI x2), (3, mI x3), (4, mI x4)] [] sg) (hk255 : ∀ sg x1 x2 x3, k255 sg x1 x2 x3 = some q → GG p l e rm_M_plan s m args below meth c (QI D shM cy ad below args s q) D shM cy ad (aw shM ad) 6 255 [(0, .ref (ad 0)), (1, mI x1), (2, mI x2), (3, mI x3)] [] sg) (hk373 : ∀ sg x1 x2 x3, k373 sg x1 x2 x3 = some q → GG p l e rm_M_plan s m args below meth c (QI D shM cy ad below args s q) D shM cy ad (aw shM ad) 6 373 [(0, .ref (ad 0)), (1, mI x1), (2, mI x2), (3, mI x3)] [] sg) {sg : St} {x1 x2 x3 x4 : Int} (hf : b_M_plan_266  F kc k255 k373 sg x1 x2 x3 x4 = some q) : GG p l e rm_M_plan s m args below meth c (QI D shM cy ad below args s q) D shM cy ad (aw shM ad) 6 266 [(0, .ref (ad 0)), (1, mI x1), (2, mI x2), (3, mI x3), (4, mI x4)] [] sg := by
  refine r_iload X 4 dX12_plan_266 rfl ?_
  refine r_aload_n X 0 dX12_plan_268 rfl rfl ?_
  refine r_getI X fl_12_208 k_M_0_5 dX12_plan_269 ?_
  refine r_icmp_ge (tgt := 373) X dX12_plan_272 (by decide) (fun hc1 => ?_) (fun hc1 => ?_)
  · have hf := ite_yes hc1 hf
    refine r_perm (lv2 := [(0, .ref (ad 0)), (1, mI x1), (2, mI x2), (3, mI x3)]) [0, 1, 2, 3] rfl ?_
    exact hk373 _ _ _ _ hf
  · have hf := ite_no hc1 hf
    refine r_aload_n X 0 dX12_plan_275 rfl rfl ?_
    refine r_getR X fl_12_49 k_M_0_20 dX12_plan_276 ?_
    refine r_iload_n X 3 dX12_plan_279 rfl rfl ?_
    obtain ⟨hg2, hf⟩ := gd_some hf
    refine r_zald X a_M_11 hg2 dX12_plan_280 ?_
    refine r_if_eq (tgt := 373) X dX12_plan_281 (by decide) (fun hc3 => ?_) (fun hc3 => ?_)
    · have hf := ite_yes hc3 hf
      refine r_perm (lv2 := [(0, .ref (ad 0)), (1, mI x1), (2, mI x2), (3, mI x3)]) [0, 1, 2, 3] rfl ?_
      exact hk373 _ _ _ _ hf
    · have hf := ite_no hc3 hf
      refine r_aload_n X 0 dX12_plan_284 rfl rfl ?_
      refine r_iload X 4 dX12_plan_285 rfl ?_
      refine r_iload_n X 3 dX12_plan_287 rfl rfl ?_
      obtain ⟨q4, hq4, hf⟩ := bd_some hf
      refine r_callVI X (As := [mI x4, mI x3]) (st := []) (as := fun ad => [.ref (ad 0), mI x4, mI x3]) (c_M_mayOf hq4) rfl yw_X12_mayOf yv_X12_mayOf ml_RX12_215 o_M_0 rfl rfl ⟨rfl, rfl⟩ ⟨Nat.le_of_ble_eq_true rfl, Nat.le_of_ble_eq_true rfl⟩ rfl rfl (Nat.le_of_ble_eq_true rfl) dX12_plan_288 ?_
      refine r_if_eq (tgt := 367) X dX12_plan_291 (by decide) (fun hc5 => ?_) (fun hc5 => ?_)
      · have hf := ite_yes hc5 hf
        refine r_iinc (lv2 := [(4, mI (x4 + 1)), (0, .ref (ad 0)), (1, mI x1), (2, mI x2), (3, mI x3)]) X 4 dX12_plan_367 rfl (by decide) rfl ?_
        refine r_goto (tgt := 266) X dX12_plan_370 (by decide) ?_
        refine r_perm (lv2 := [(0, .ref (ad 0)), (1, mI x1), (2, mI x2), (3, mI x3), (4, mI (x4 + 1))]) [1, 2, 3, 4, 0] rfl ?_
        exact hkc _ _ _ _ _ hf
      · have hf := ite_no hc5 hf
        refine r_aload_n X 0 dX12_plan_294 rfl rfl ?_
        refine r_getR X fl_12_43 k_M_0_18 dX12_plan_295 ?_
        refine r_iload_n X 3 dX12_plan_298 rfl rfl ?_
        refine r_iload X 4 dX12_plan_299 rfl ?_
        obtain ⟨q6, hq6, hf⟩ := bd_some hf
        refine r_callSI X (As := [mI x3, mI x4]) (st := [.ref (ad 9)]) (as := fun ad => [mI x3, mI x4]) (c_M_at hq6) rfl yw_X12_at ys_X12_at ml_RX12_225 ⟨rfl, rfl⟩ ⟨Nat.le_of_ble_eq_true rfl, Nat.le_of_ble_eq_true rfl⟩ rfl rfl (Nat.le_of_ble_eq_true rfl) dX12_plan_301 ?_
        obtain ⟨hg7, hf⟩ := gd_some hf
        refine r_zald X a_M_9 hg7 dX12_plan_304 ?_
        refine r_if_eq (tgt := 311) X dX12_plan_305 (by decide) (fun hc8 => ?_) (fun hc8 => ?_)
        · have hf := ite_yes hc8 hf
          refine r_iconst X dX12_plan_311 ?_
          refine r_istore (lv2 := [(5, mI 0), (0, .ref (ad 0)), (1, mI x1), (2, mI x2), (3, mI x3), (4, mI x4)]) X dX12_plan_312 (by decide) rfl ?_
          refine r_perm (lv2 := [(0, .ref (ad 0)), (1, mI x1), (2, mI x2), (3, mI x3), (4, mI x4), (5, mI 0)]) [1, 2, 3, 4, 5, 0] rfl ?_
          refine l_M_plan_314_ok X ?_ F _ _ _ _ _ _ hf
          · intro s9 x1_10 x2_11 x3_12 x4_13 hf
            refine r_iinc (lv2 := [(4, mI (x4_13 + 1)), (0, .ref (ad 0)), (1, mI x1_10), (2, mI x2_11), (3, mI x3_12)]) X 4 dX12_plan_367 rfl (by decide) rfl ?_
            refine r_goto (tgt := 266) X dX12_plan_370 (by decide) ?_
            refine r_perm (lv2 := [(0, .ref (ad 0)), (1, mI x1_10), (2, mI x2_11), (3, mI x3_12), (4, mI (x4_13 + 1))]) [1, 2, 3, 4, 0] rfl ?_
            exact hkc _ _ _ _ _ hf
        · have hf := ite_no hc8 hf
          refine r_goto (tgt := 367) X dX12_plan_308 (by decide) ?_
          refine r_iinc (lv2 := [(4, mI (x4 + 1)), (0, .ref (ad 0)), (1, mI x1), (2, mI x2), (3, mI x3)]) X 4 dX12_plan_367 rfl (by decide) rfl ?_
          refine r_goto (tgt := 266) X dX12_plan_370 (by decide) ?_
          refine r_perm (lv2 := [(0, .ref (ad 0)), (1, mI x1), (2, mI x2), (3, mI x3), (4, mI (x4 + 1))]) [1, 2, 3, 4, 0] rfl ?_
          exact hkc _ _ _ _ _ hf
set_option maxRecDepth 100000 in
set_option maxHeartbeats 4000000 in
theorem l_M_plan_266_ok {p : Program} {l : Launch} {e : Env} {s : State} {m : MethodId} {args : Array Value} {below : List Frame} {meth : Method} {c : Code} {D : va_G} {cy : Nat → ClassId} {ad : Nat → Nat} (X : CX p s m args meth c cX12_plan RX12 6 (some .int) D shM cy ad (aw shM ad)) {F : Nat} {k255 : St → Int → Int → Int → Option (Int × St)} {k373 : St → Int → Int → Int → Option (Int × St)} {q : Int × St} (hk255 : ∀ sg x1 x2 x3, k255 sg x1 x2 x3 = some q → GG p l e rm_M_plan s m args below meth c (QI D shM cy ad below args s q) D shM cy ad (aw shM ad) 6 255 [(0, .ref (ad 0)), (1, mI x1), (2, mI x2), (3, mI x3)] [] sg) (hk373 : ∀ sg x1 x2 x3, k373 sg x1 x2 x3 = some q → GG p l e rm_M_plan s m args below meth c (QI D shM cy ad below args s q) D shM cy ad (aw shM ad) 6 373 [(0, .ref (ad 0)), (1, mI x1), (2, mI x2), (3, mI x3)] [] sg) : ∀ (n : Nat) (sg : St) (x1 x2 x3 x4 : Int), l_M_plan_266  F k255 k373 n sg x1 x2 x3 x4 = some q → GG p l e rm_M_plan s m args below meth c (QI D shM cy ad below args s q) D shM cy ad (aw shM ad) 6 266 [(0, .ref (ad 0)), (1, mI x1), (2, mI x2), (3, mI x3), (4, mI x4)] [] sg := by
  intro n
  induction n with
  | zero => intro sg x1 x2 x3 x4 h; cases h
  | succ n ih => exact fun sg x1 x2 x3 x4 h => b_M_plan_266_ok X ih hk255 hk373 h
set_option maxRecDepth 100000 in
set_option maxHeartbeats 4000000 in
theorem b_M_plan_255_ok {p : Program} {l : Launch} {e : Env} {s : State} {m : MethodId} {args : Array Value} {below : List Frame} {meth : Method} {c : Code} {D : va_G} {cy : Nat → ClassId} {ad : Nat → Nat} (X : CX p s m args meth c cX12_plan RX12 6 (some .int) D shM cy ad (aw shM ad)) {F : Nat} {kc : St → Int → Int → Int → Option (Int × St)} {k379 : St → Int → Int → Option (Int × St)} {q : Int × St} (hkc : ∀ sg x1 x2 x3, kc sg x1 x2 x3 = some q → GG p l e rm_M_plan s m args below meth c (QI D shM cy ad below args s q) D shM cy ad (aw shM ad) 6 255 [(0, .ref (ad 0)), (1, mI x1), (2, mI x2), (3, mI x3)] [] sg) (hk379 : ∀ sg x1 x2, k379 sg x1 x2 = some q → GG p l e rm_M_plan s m args below meth c (QI D shM cy ad below args s q) D shM cy ad (aw shM ad) 6 379 [(0, .ref (ad 0)), (1, mI x1), (2, mI x2)] [] sg) {sg : St} {x1 x2 x3 : Int} (hf : b_M_plan_255  F kc k379 sg x1 x2 x3 = some q) : GG p l e rm_M_plan s m args below meth c (QI D shM cy ad below args s q) D shM cy ad (aw shM ad) 6 255 [(0, .ref (ad 0)), (1, mI x1), (2, mI x2), (3, mI x3)] [] sg := by
  refine r_iload_n X 3 dX12_plan_255 rfl rfl ?_
  refine r_aload_n X 0 dX12_plan_256 rfl rfl ?_
  refine r_getI X fl_12_205 k_M_0_4 dX12_plan_257 ?_
  refine r_icmp_ge (tgt := 379) X dX12_plan_260 (by decide) (fun hc1 => ?_) (fun hc1 => ?_)
  · have hf := ite_yes hc1 hf
    refine r_perm (lv2 := [(0, .ref (ad 0)), (1, mI x1), (2, mI x2)]) [0, 1, 2] rfl ?_
    exact hk379 _ _ _ hf
  · have hf := ite_no hc1 hf
    refine r_iconst X dX12_plan_263 ?_
    refine r_istore (lv2 := [(4, mI 0), (0, .ref (ad 0)), (1, mI x1), (2, mI x2), (3, mI x3)]) X dX12_plan_264 (by decide) rfl ?_
    refine r_perm (lv2 := [(0, .ref (ad 0)), (1, mI x1), (2, mI x2), (3, mI x3), (4, mI 0)]) [1, 2, 3, 4, 0] rfl ?_
    refine l_M_plan_266_ok X ?_ ?_ F _ _ _ _ _ hf
    · intro s2 x1_3 x2_4 x3_5 hf
      exact hkc _ _ _ _ hf
    · intro s6 x1_7 x2_8 x3_9 hf
      refine r_iinc (lv2 := [(3, mI (x3_9 + 1)), (0, .ref (ad 0)), (1, mI x1_7), (2, mI x2_8)]) X 3 dX12_plan_373 rfl (by decide) rfl ?_
      refine r_goto (tgt := 255) X dX12_plan_376 (by decide) ?_
      refine r_perm (lv2 := [(0, .ref (ad 0)), (1, mI x1_7), (2, mI x2_8), (3, mI (x3_9 + 1))]) [1, 2, 3, 0] rfl ?_
      exact hkc _ _ _ _ hf
set_option maxRecDepth 100000 in
set_option maxHeartbeats 4000000 in
theorem l_M_plan_255_ok {p : Program} {l : Launch} {e : Env} {s : State} {m : MethodId} {args : Array Value} {below : List Frame} {meth : Method} {c : Code} {D : va_G} {cy : Nat → ClassId} {ad : Nat → Nat} (X : CX p s m args meth c cX12_plan RX12 6 (some .int) D shM cy ad (aw shM ad)) {F : Nat} {k379 : St → Int → Int → Option (Int × St)} {q : Int × St} (hk379 : ∀ sg x1 x2, k379 sg x1 x2 = some q → GG p l e rm_M_plan s m args below meth c (QI D shM cy ad below args s q) D shM cy ad (aw shM ad) 6 379 [(0, .ref (ad 0)), (1, mI x1), (2, mI x2)] [] sg) : ∀ (n : Nat) (sg : St) (x1 x2 x3 : Int), l_M_plan_255  F k379 n sg x1 x2 x3 = some q → GG p l e rm_M_plan s m args below meth c (QI D shM cy ad below args s q) D shM cy ad (aw shM ad) 6 255 [(0, .ref (ad 0)), (1, mI x1), (2, mI x2), (3, mI x3)] [] sg := by
  intro n
  induction n with
  | zero => intro sg x1 x2 x3 h; cases h
  | succ n ih => exact fun sg x1 x2 x3 h => b_M_plan_255_ok X ih hk379 h
set_option maxRecDepth 100000 in
set_option maxHeartbeats 4000000 in
theorem b_M_plan_247_ok {p : Program} {l : Launch} {e : Env} {s : State} {m : MethodId} {args : Array Value} {below : List Frame} {meth : Method} {c : Code} {D : va_G} {cy : Nat → ClassId} {ad : Nat → Nat} (X : CX p s m args meth c cX12_plan RX12 6 (some .int) D shM cy ad (aw shM ad)) {F : Nat} {kc : St → Int → Int → Option (Int × St)} {k382 : St → Int → Option (Int × St)} {q : Int × St} (hkc : ∀ sg x1 x2, kc sg x1 x2 = some q → GG p l e rm_M_plan s m args below meth c (QI D shM cy ad below args s q) D shM cy ad (aw shM ad) 6 247 [(0, .ref (ad 0)), (1, mI x1), (2, mI x2)] [] sg) (hk382 : ∀ sg x1, k382 sg x1 = some q → GG p l e rm_M_plan s m args below meth c (QI D shM cy ad below args s q) D shM cy ad (aw shM ad) 6 382 [(0, .ref (ad 0)), (1, mI x1)] [] sg) {sg : St} {x1 x2 : Int} (hf : b_M_plan_247  F kc k382 sg x1 x2 = some q) : GG p l e rm_M_plan s m args below meth c (QI D shM cy ad below args s q) D shM cy ad (aw shM ad) 6 247 [(0, .ref (ad 0)), (1, mI x1), (2, mI x2)] [] sg := by
  refine r_iload_n X 2 dX12_plan_247 rfl rfl ?_
  refine r_if_eq (tgt := 382) X dX12_plan_248 (by decide) (fun hc1 => ?_) (fun hc1 => ?_)
  · have hf := ite_yes hc1 hf
    refine r_perm (lv2 := [(0, .ref (ad 0)), (1, mI x1)]) [0, 1] rfl ?_
    exact hk382 _ _ hf
  · have hf := ite_no hc1 hf
    refine r_iconst X dX12_plan_251 ?_
    refine r_istore_n (lv2 := [(2, mI 0), (0, .ref (ad 0)), (1, mI x1)]) X dX12_plan_252 rfl (by decide) rfl ?_
    refine r_iconst X dX12_plan_253 ?_
    refine r_istore_n (lv2 := [(3, mI 0), (2, mI 0), (0, .ref (ad 0)), (1, mI x1)]) X dX12_plan_254 rfl (by decide) rfl ?_
    refine r_perm (lv2 := [(0, .ref (ad 0)), (1, mI x1), (2, mI 0), (3, mI 0)]) [2, 3, 1, 0] rfl ?_
    refine l_M_plan_255_ok X ?_ F _ _ _ _ hf
    · intro s2 x1_3 x2_4 hf
      refine r_goto (tgt := 247) X dX12_plan_379 (by decide) ?_
      exact hkc _ _ _ hf
set_option maxRecDepth 100000 in
set_option maxHeartbeats 4000000 in
theorem l_M_plan_247_ok {p : Program} {l : Launch} {e : Env} {s : State} {m : MethodId} {args : Array Value} {below : List Frame} {meth : Method} {c : Code} {D : va_G} {cy : Nat → ClassId} {ad : Nat → Nat} (X : CX p s m args meth c cX12_plan RX12 6 (some .int) D shM cy ad (aw shM ad)) {F : Nat} {k382 : St → Int → Option (Int × St)} {q : Int × St} (hk382 : ∀ sg x1, k382 sg x1 = some q → GG p l e rm_M_plan s m args below meth c (QI D shM cy ad below args s q) D shM cy ad (aw shM ad) 6 382 [(0, .ref (ad 0)), (1, mI x1)] [] sg) : ∀ (n : Nat) (sg : St) (x1 x2 : Int), l_M_plan_247  F k382 n sg x1 x2 = some q → GG p l e rm_M_plan s m args below meth c (QI D shM cy ad below args s q) D shM cy ad (aw shM ad) 6 247 [(0, .ref (ad 0)), (1, mI x1), (2, mI x2)] [] sg := by
  intro n
  induction n with
  | zero => intro sg x1 x2 h; cases h
  | succ n ih => exact fun sg x1 x2 h => b_M_plan_247_ok X ih hk382 h
set_option maxRecDepth 100000 in
set_option maxHeartbeats 4000000 in
theorem b_M_plan_183_ok {p : Program} {l : Launch} {e : Env} {s : State} {m : MethodId} {args : Array Value} {below : List Frame} {meth : Method} {c : Code} {D : va_G} {cy : Nat → ClassId} {ad : Nat → Nat} (X : CX p s m args meth c cX12_plan RX12 6 (some .int) D shM cy ad (aw shM ad)) {F : Nat} {kc : St → Int → Int → Int → Int → Option (Int × St)} {k220 : St → Int → Int → Int → Option (Int × St)} {q : Int × St} (hkc : ∀ sg x1 x2 x3 x4, kc sg x1 x2 x3 x4 = some q → GG p l e rm_M_plan s m args below meth c (QI D shM cy ad below args s q) D shM cy ad (aw shM ad) 6 183 [(0, .ref (ad 0)), (1, mI x1), (2, mI x2), (3, mI x3), (4, mI x4)] [] sg) (hk220 : ∀ sg x1 x2 x3, k220 sg x1 x2 x3 = some q → GG p l e rm_M_plan s m args below meth c (QI D shM cy ad below args s q) D shM cy ad (aw shM ad) 6 220 [(0, .ref (ad 0)), (1, mI x1), (2, mI x2), (3, mI x3)] [] sg) {sg : St} {x1 x2 x3 x4 : Int} (hf : b_M_plan_183  F kc k220 sg x1 x2 x3 x4 = some q) : GG p l e rm_M_plan s m args below meth c (QI D shM cy ad below args s q) D shM cy ad (aw shM ad) 6 183 [(0, .ref (ad 0)), (1, mI x1), (2, mI x2), (3, mI x3), (4, mI x4)] [] sg := by
  refine r_iload X 4 dX12_plan_183 rfl ?_
  refine r_aload_n X 0 dX12_plan_185 rfl rfl ?_
  refine r_getI X fl_12_208 k_M_0_5 dX12_plan_186 ?_
  refine r_icmp_ge (tgt := 220) X dX12_plan_189 (by decide) (fun hc1 => ?_) (fun hc1 => ?_)
  · have hf := ite_yes hc1 hf
    refine r_perm (lv2 := [(0, .ref (ad 0)), (1, mI x1), (2, mI x2), (3, mI x3)]) [0, 1, 2, 3] rfl ?_
    exact hk220 _ _ _ _ hf
  · have hf := ite_no hc1 hf
    refine r_iload_n X 3 dX12_plan_192 rfl rfl ?_
    refine r_aload_n X 0 dX12_plan_193 rfl rfl ?_
    refine r_getR X fl_12_43 k_M_0_18 dX12_plan_194 ?_
    refine r_iload_n X 2 dX12_plan_197 rfl rfl ?_
    refine r_iload X 4 dX12_plan_198 rfl ?_
    obtain ⟨q2, hq2, hf⟩ := bd_some hf
    refine r_callSI X (As := [mI x2, mI x4]) (st := [.ref (ad 9), mI x3]) (as := fun ad => [mI x2, mI x4]) (c_M_at hq2) rfl yw_X12_at ys_X12_at ml_RX12_225 ⟨rfl, rfl⟩ ⟨Nat.le_of_ble_eq_true rfl, Nat.le_of_ble_eq_true rfl⟩ rfl rfl (Nat.le_of_ble_eq_true rfl) dX12_plan_200 ?_
    obtain ⟨hg3, hf⟩ := gd_some hf
    refine r_zald X a_M_9 hg3 dX12_plan_203 ?_
    refine r_if_eq (tgt := 211) X dX12_plan_204 (by decide) (fun hc4 => ?_) (fun hc4 => ?_)
    · have hf := ite_yes hc4 hf
      refine r_iconst X dX12_plan_211 ?_
      refine r_iadd X dX12_plan_212 ?_
      refine r_istore_n (lv2 := [(3, mI (x3 + 0)), (0, .ref (ad 0)), (1, mI x1), (2, mI x2), (4, mI x4)]) X dX12_plan_213 rfl (by decide) rfl ?_
      refine r_iinc (lv2 := [(4, mI (x4 + 1)), (3, mI (x3 + 0)), (0, .ref (ad 0)), (1, mI x1), (2, mI x2)]) X 4 dX12_plan_214 rfl (by decide) rfl ?_
      refine r_goto (tgt := 183) X dX12_plan_217 (by decide) ?_
      refine r_perm (lv2 := [(0, .ref (ad 0)), (1, mI x1), (2, mI x2), (3, mI (x3 + 0)), (4, mI (x4 + 1))]) [2, 3, 4, 1, 0] rfl ?_
      exact hkc _ _ _ _ _ hf
    · have hf := ite_no hc4 hf
      refine r_iconst X dX12_plan_207 ?_
      refine r_goto (tgt := 212) X dX12_plan_208 (by decide) ?_
      refine r_iadd X dX12_plan_212 ?_
      refine r_istore_n (lv2 := [(3, mI (x3 + 1)), (0, .ref (ad 0)), (1, mI x1), (2, mI x2), (4, mI x4)]) X dX12_plan_213 rfl (by decide) rfl ?_
      refine r_iinc (lv2 := [(4, mI (x4 + 1)), (3, mI (x3 + 1)), (0, .ref (ad 0)), (1, mI x1), (2, mI x2)]) X 4 dX12_plan_214 rfl (by decide) rfl ?_
      refine r_goto (tgt := 183) X dX12_plan_217 (by decide) ?_
      refine r_perm (lv2 := [(0, .ref (ad 0)), (1, mI x1), (2, mI x2), (3, mI (x3 + 1)), (4, mI (x4 + 1))]) [2, 3, 4, 1, 0] rfl ?_
      exact hkc _ _ _ _ _ hf
set_option maxRecDepth 100000 in
set_option maxHeartbeats 4000000 in
theorem l_M_plan_183_ok {p : Program} {l : Launch} {e : Env} {s : State} {m : MethodId} {args : Array Value} {below : List Frame} {meth : Method} {c : Code} {D : va_G} {cy : Nat → ClassId} {ad : Nat → Nat} (X : CX p s m args meth c cX12_plan RX12 6 (some .int) D shM cy ad (aw shM ad)) {F : Nat} {k220 : St → Int → Int → Int → Option (Int × St)} {q : Int × St} (hk220 : ∀ sg x1 x2 x3, k220 sg x1 x2 x3 = some q → GG p l e rm_M_plan s m args below meth c (QI D shM cy ad below args s q) D shM cy ad (aw shM ad) 6 220 [(0, .ref (ad 0)), (1, mI x1), (2, mI x2), (3, mI x3)] [] sg) : ∀ (n : Nat) (sg : St) (x1 x2 x3 x4 : Int), l_M_plan_183  F k220 n sg x1 x2 x3 x4 = some q → GG p l e rm_M_plan s m args below meth c (QI D shM cy ad below args s q) D shM cy ad (aw shM ad) 6 183 [(0, .ref (ad 0)), (1, mI x1), (2, mI x2), (3, mI x3), (4, mI x4)] [] sg := by
  intro n
  induction n with
  | zero => intro sg x1 x2 x3 x4 h; cases h
  | succ n ih => exact fun sg x1 x2 x3 x4 h => b_M_plan_183_ok X ih hk220 h
set_option maxRecDepth 100000 in
set_option maxHeartbeats 4000000 in
theorem b_M_plan_238_ok {p : Program} {l : Launch} {e : Env} {s : State} {m : MethodId} {args : Array Value} {below : List Frame} {meth : Method} {c : Code} {D : va_G} {cy : Nat → ClassId} {ad : Nat → Nat} (X : CX p s m args meth c cX12_plan RX12 6 (some .int) D shM cy ad (aw shM ad)) {F : Nat} {kc : St → Int → Int → Option (Int × St)} {k245 : St → Int → Option (Int × St)} {q : Int × St} (hkc : ∀ sg x1 x2, kc sg x1 x2 = some q → GG p l e rm_M_plan s m args below meth c (QI D shM cy ad below args s q) D shM cy ad (aw shM ad) 6 170 [(0, .ref (ad 0)), (1, mI x1), (2, mI x2)] [] sg) (hk245 : ∀ sg x1, k245 sg x1 = some q → GG p l e rm_M_plan s m args below meth c (QI D shM cy ad below args s q) D shM cy ad (aw shM ad) 6 245 [(0, .ref (ad 0)), (1, mI x1)] [] sg) {sg : St} {x1 x2 z0 z1 : Int} (hf : b_M_plan_238  F kc k245 sg x1 x2 z0 z1 = some q) : GG p l e rm_M_plan s m args below meth c (QI D shM cy ad below args s q) D shM cy ad (aw shM ad) 6 238 [(0, .ref (ad 0)), (1, mI x1), (2, mI x2)] [mI z0, mI z1, .ref (ad 11)] sg := by
  obtain ⟨hg1, hf⟩ := gd_some hf
  refine r_zast X a_M_11 hg1 dX12_plan_238 ?_
  refine r_iinc (lv2 := [(2, mI (x2 + 1)), (0, .ref (ad 0)), (1, mI x1)]) X 2 dX12_plan_239 rfl (by decide) rfl ?_
  refine r_goto (tgt := 170) X dX12_plan_242 (by decide) ?_
  refine r_perm (lv2 := [(0, .ref (ad 0)), (1, mI x1), (2, mI (x2 + 1))]) [1, 2, 0] rfl ?_
  exact hkc _ _ _ hf
set_option maxRecDepth 100000 in
set_option maxHeartbeats 4000000 in
theorem b_M_plan_170_ok {p : Program} {l : Launch} {e : Env} {s : State} {m : MethodId} {args : Array Value} {below : List Frame} {meth : Method} {c : Code} {D : va_G} {cy : Nat → ClassId} {ad : Nat → Nat} (X : CX p s m args meth c cX12_plan RX12 6 (some .int) D shM cy ad (aw shM ad)) {F : Nat} {kc : St → Int → Int → Option (Int × St)} {k245 : St → Int → Option (Int × St)} {q : Int × St} (hkc : ∀ sg x1 x2, kc sg x1 x2 = some q → GG p l e rm_M_plan s m args below meth c (QI D shM cy ad below args s q) D shM cy ad (aw shM ad) 6 170 [(0, .ref (ad 0)), (1, mI x1), (2, mI x2)] [] sg) (hk245 : ∀ sg x1, k245 sg x1 = some q → GG p l e rm_M_plan s m args below meth c (QI D shM cy ad below args s q) D shM cy ad (aw shM ad) 6 245 [(0, .ref (ad 0)), (1, mI x1)] [] sg) {sg : St} {x1 x2 : Int} (hf : b_M_plan_170  F kc k245 sg x1 x2 = some q) : GG p l e rm_M_plan s m args below meth c (QI D shM cy ad below args s q) D shM cy ad (aw shM ad) 6 170 [(0, .ref (ad 0)), (1, mI x1), (2, mI x2)] [] sg := by
  refine r_iload_n X 2 dX12_plan_170 rfl rfl ?_
  refine r_aload_n X 0 dX12_plan_171 rfl rfl ?_
  refine r_getI X fl_12_205 k_M_0_4 dX12_plan_172 ?_
  refine r_icmp_ge (tgt := 245) X dX12_plan_175 (by decide) (fun hc1 => ?_) (fun hc1 => ?_)
  · have hf := ite_yes hc1 hf
    refine r_perm (lv2 := [(0, .ref (ad 0)), (1, mI x1)]) [0, 1] rfl ?_
    exact hk245 _ _ hf
  · have hf := ite_no hc1 hf
    refine r_iconst X dX12_plan_178 ?_
    refine r_istore_n (lv2 := [(3, mI 0), (0, .ref (ad 0)), (1, mI x1), (2, mI x2)]) X dX12_plan_179 rfl (by decide) rfl ?_
    refine r_iconst X dX12_plan_180 ?_
    refine r_istore (lv2 := [(4, mI 0), (3, mI 0), (0, .ref (ad 0)), (1, mI x1), (2, mI x2)]) X dX12_plan_181 (by decide) rfl ?_
    refine r_perm (lv2 := [(0, .ref (ad 0)), (1, mI x1), (2, mI x2), (3, mI 0), (4, mI 0)]) [2, 3, 4, 1, 0] rfl ?_
    refine l_M_plan_183_ok X ?_ F _ _ _ _ _ hf
    · intro s2 x1_3 x2_4 x3_5 hf
      refine r_aload_n X 0 dX12_plan_220 rfl rfl ?_
      refine r_getR X fl_12_49 k_M_0_20 dX12_plan_221 ?_
      refine r_iload_n X 2 dX12_plan_224 rfl rfl ?_
      refine r_iload_n X 3 dX12_plan_225 rfl rfl ?_
      refine r_aload_n X 0 dX12_plan_226 rfl rfl ?_
      refine r_getI X fl_12_13 k_M_0_6 dX12_plan_227 ?_
      refine r_icmp_ge (tgt := 237) X dX12_plan_230 (by decide) (fun hc6 => ?_) (fun hc6 => ?_)
      · have hf := ite_yes hc6 hf
        refine r_iconst X dX12_plan_237 ?_
        refine r_perm (lv2 := [(0, .ref (ad 0)), (1, mI x1_3), (2, mI x2_4)]) [0, 1, 2] rfl ?_
        exact b_M_plan_238_ok X hkc hk245 hf
      · have hf := ite_no hc6 hf
        refine r_iconst X dX12_plan_233 ?_
        refine r_goto (tgt := 238) X dX12_plan_234 (by decide) ?_
        refine r_perm (lv2 := [(0, .ref (ad 0)), (1, mI x1_3), (2, mI x2_4)]) [0, 1, 2] rfl ?_
        exact b_M_plan_238_ok X hkc hk245 hf
set_option maxRecDepth 100000 in
set_option maxHeartbeats 4000000 in
theorem l_M_plan_170_ok {p : Program} {l : Launch} {e : Env} {s : State} {m : MethodId} {args : Array Value} {below : List Frame} {meth : Method} {c : Code} {D : va_G} {cy : Nat → ClassId} {ad : Nat → Nat} (X : CX p s m args meth c cX12_plan RX12 6 (some .int) D shM cy ad (aw shM ad)) {F : Nat} {k245 : St → Int → Option (Int × St)} {q : Int × St} (hk245 : ∀ sg x1, k245 sg x1 = some q → GG p l e rm_M_plan s m args below meth c (QI D shM cy ad below args s q) D shM cy ad (aw shM ad) 6 245 [(0, .ref (ad 0)), (1, mI x1)] [] sg) : ∀ (n : Nat) (sg : St) (x1 x2 : Int), l_M_plan_170  F k245 n sg x1 x2 = some q → GG p l e rm_M_plan s m args below meth c (QI D shM cy ad below args s q) D shM cy ad (aw shM ad) 6 170 [(0, .ref (ad 0)), (1, mI x1), (2, mI x2)] [] sg := by
  intro n
  induction n with
  | zero => intro sg x1 x2 h; cases h
  | succ n ih => exact fun sg x1 x2 h => b_M_plan_170_ok X ih hk245 h
set_option maxRecDepth 100000 in
set_option maxHeartbeats 4000000 in
theorem b_M_plan_140_ok {p : Program} {l : Launch} {e : Env} {s : State} {m : MethodId} {args : Array Value} {below : List Frame} {meth : Method} {c : Code} {D : va_G} {cy : Nat → ClassId} {ad : Nat → Nat} (X : CX p s m args meth c cX12_plan RX12 6 (some .int) D shM cy ad (aw shM ad)) {F : Nat} {kc : St → Int → Int → Option (Int × St)} {k147 : St → Int → Option (Int × St)} {q : Int × St} (hkc : ∀ sg x1 x2, kc sg x1 x2 = some q → GG p l e rm_M_plan s m args below meth c (QI D shM cy ad below args s q) D shM cy ad (aw shM ad) 6 113 [(0, .ref (ad 0)), (1, mI x1), (2, mI x2)] [] sg) (hk147 : ∀ sg x1, k147 sg x1 = some q → GG p l e rm_M_plan s m args below meth c (QI D shM cy ad below args s q) D shM cy ad (aw shM ad) 6 147 [(0, .ref (ad 0)), (1, mI x1)] [] sg) {sg : St} {x1 x2 z0 z1 : Int} (hf : b_M_plan_140  F kc k147 sg x1 x2 z0 z1 = some q) : GG p l e rm_M_plan s m args below meth c (QI D shM cy ad below args s q) D shM cy ad (aw shM ad) 6 140 [(0, .ref (ad 0)), (1, mI x1), (2, mI x2)] [mI z0, mI z1, .ref (ad 9)] sg := by
  obtain ⟨hg1, hf⟩ := gd_some hf
  refine r_zast X a_M_9 hg1 dX12_plan_140 ?_
  refine r_iinc (lv2 := [(2, mI (x2 + 1)), (0, .ref (ad 0)), (1, mI x1)]) X 2 dX12_plan_141 rfl (by decide) rfl ?_
  refine r_goto (tgt := 113) X dX12_plan_144 (by decide) ?_
  refine r_perm (lv2 := [(0, .ref (ad 0)), (1, mI x1), (2, mI (x2 + 1))]) [1, 2, 0] rfl ?_
  exact hkc _ _ _ hf
set_option maxRecDepth 100000 in
set_option maxHeartbeats 4000000 in
theorem b_M_plan_113_ok {p : Program} {l : Launch} {e : Env} {s : State} {m : MethodId} {args : Array Value} {below : List Frame} {meth : Method} {c : Code} {D : va_G} {cy : Nat → ClassId} {ad : Nat → Nat} (X : CX p s m args meth c cX12_plan RX12 6 (some .int) D shM cy ad (aw shM ad)) {F : Nat} {kc : St → Int → Int → Option (Int × St)} {k147 : St → Int → Option (Int × St)} {q : Int × St} (hkc : ∀ sg x1 x2, kc sg x1 x2 = some q → GG p l e rm_M_plan s m args below meth c (QI D shM cy ad below args s q) D shM cy ad (aw shM ad) 6 113 [(0, .ref (ad 0)), (1, mI x1), (2, mI x2)] [] sg) (hk147 : ∀ sg x1, k147 sg x1 = some q → GG p l e rm_M_plan s m args below meth c (QI D shM cy ad below args s q) D shM cy ad (aw shM ad) 6 147 [(0, .ref (ad 0)), (1, mI x1)] [] sg) {sg : St} {x1 x2 : Int} (hf : b_M_plan_113  F kc k147 sg x1 x2 = some q) : GG p l e rm_M_plan s m args below meth c (QI D shM cy ad below args s q) D shM cy ad (aw shM ad) 6 113 [(0, .ref (ad 0)), (1, mI x1), (2, mI x2)] [] sg := by
  refine r_iload_n X 2 dX12_plan_113 rfl rfl ?_
  refine r_sipush X dX12_plan_114 (by decide) ?_
  refine r_icmp_ge (tgt := 147) X dX12_plan_117 (by decide) (fun hc1 => ?_) (fun hc1 => ?_)
  · have hf := ite_yes hc1 hf
    refine r_perm (lv2 := [(0, .ref (ad 0)), (1, mI x1)]) [0, 1] rfl ?_
    exact hk147 _ _ hf
  · have hf := ite_no hc1 hf
    refine r_aload_n X 0 dX12_plan_120 rfl rfl ?_
    refine r_getR X fl_12_43 k_M_0_18 dX12_plan_121 ?_
    refine r_iload_n X 2 dX12_plan_124 rfl rfl ?_
    refine r_aload_n X 0 dX12_plan_125 rfl rfl ?_
    refine r_getR X fl_12_58 k_M_0_23 dX12_plan_126 ?_
    refine r_iload_n X 2 dX12_plan_129 rfl rfl ?_
    obtain ⟨hg2, hf⟩ := gd_some hf
    refine r_iald X a_M_14 hg2 dX12_plan_130 ?_
    refine r_iconst X dX12_plan_131 ?_
    refine r_icmp_ne (tgt := 139) X dX12_plan_132 (by decide) (fun hc3 => ?_) (fun hc3 => ?_)
    · have hf := ite_yes hc3 hf
      refine r_iconst X dX12_plan_135 ?_
      refine r_goto (tgt := 140) X dX12_plan_136 (by decide) ?_
      exact b_M_plan_140_ok X hkc hk147 hf
    · have hf := ite_no hc3 hf
      refine r_iconst X dX12_plan_139 ?_
      exact b_M_plan_140_ok X hkc hk147 hf
set_option maxRecDepth 100000 in
set_option maxHeartbeats 4000000 in
theorem l_M_plan_113_ok {p : Program} {l : Launch} {e : Env} {s : State} {m : MethodId} {args : Array Value} {below : List Frame} {meth : Method} {c : Code} {D : va_G} {cy : Nat → ClassId} {ad : Nat → Nat} (X : CX p s m args meth c cX12_plan RX12 6 (some .int) D shM cy ad (aw shM ad)) {F : Nat} {k147 : St → Int → Option (Int × St)} {q : Int × St} (hk147 : ∀ sg x1, k147 sg x1 = some q → GG p l e rm_M_plan s m args below meth c (QI D shM cy ad below args s q) D shM cy ad (aw shM ad) 6 147 [(0, .ref (ad 0)), (1, mI x1)] [] sg) : ∀ (n : Nat) (sg : St) (x1 x2 : Int), l_M_plan_113  F k147 n sg x1 x2 = some q → GG p l e rm_M_plan s m args below meth c (QI D shM cy ad below args s q) D shM cy ad (aw shM ad) 6 113 [(0, .ref (ad 0)), (1, mI x1), (2, mI x2)] [] sg := by
  intro n
  induction n with
  | zero => intro sg x1 x2 h; cases h
  | succ n ih => exact fun sg x1 x2 h => b_M_plan_113_ok X ih hk147 h
set_option maxRecDepth 100000 in
set_option maxHeartbeats 4000000 in
theorem b_M_plan_49_ok {p : Program} {l : Launch} {e : Env} {s : State} {m : MethodId} {args : Array Value} {below : List Frame} {meth : Method} {c : Code} {D : va_G} {cy : Nat → ClassId} {ad : Nat → Nat} (X : CX p s m args meth c cX12_plan RX12 6 (some .int) D shM cy ad (aw shM ad)) {F : Nat} {kc : St → Int → Int → Int → Option (Int × St)} {k105 : St → Int → Int → Option (Int × St)} {q : Int × St} (hkc : ∀ sg x1 x2 x3, kc sg x1 x2 x3 = some q → GG p l e rm_M_plan s m args below meth c (QI D shM cy ad below args s q) D shM cy ad (aw shM ad) 6 49 [(0, .ref (ad 0)), (1, mI x1), (2, mI x2), (3, mI x3)] [] sg) (hk105 : ∀ sg x1 x2, k105 sg x1 x2 = some q → GG p l e rm_M_plan s m args below meth c (QI D shM cy ad below args s q) D shM cy ad (aw shM ad) 6 105 [(0, .ref (ad 0)), (1, mI x1), (2, mI x2)] [] sg) {sg : St} {x1 x2 x3 : Int} (hf : b_M_plan_49  F kc k105 sg x1 x2 x3 = some q) : GG p l e rm_M_plan s m args below meth c (QI D shM cy ad below args s q) D shM cy ad (aw shM ad) 6 49 [(0, .ref (ad 0)), (1, mI x1), (2, mI x2), (3, mI x3)] [] sg := by
  refine r_iload_n X 3 dX12_plan_49 rfl rfl ?_
  refine r_aload_n X 0 dX12_plan_50 rfl rfl ?_
  refine r_getI X fl_12_208 k_M_0_5 dX12_plan_51 ?_
  refine r_icmp_ge (tgt := 105) X dX12_plan_54 (by decide) (fun hc1 => ?_) (fun hc1 => ?_)
  · have hf := ite_yes hc1 hf
    refine r_perm (lv2 := [(0, .ref (ad 0)), (1, mI x1), (2, mI x2)]) [0, 1, 2] rfl ?_
    exact hk105 _ _ _ hf
  · have hf := ite_no hc1 hf
    refine r_aload_n X 0 dX12_plan_57 rfl rfl ?_
    refine r_iload_n X 3 dX12_plan_58 rfl rfl ?_
    refine r_iload_n X 2 dX12_plan_59 rfl rfl ?_
    obtain ⟨q2, hq2, hf⟩ := bd_some hf
    refine r_callVI X (As := [mI x3, mI x2]) (st := []) (as := fun ad => [.ref (ad 0), mI x3, mI x2]) (c_M_mayOf hq2) rfl yw_X12_mayOf yv_X12_mayOf ml_RX12_215 o_M_0 rfl rfl ⟨rfl, rfl⟩ ⟨Nat.le_of_ble_eq_true rfl, Nat.le_of_ble_eq_true rfl⟩ rfl rfl (Nat.le_of_ble_eq_true rfl) dX12_plan_60 ?_
    refine r_if_ne (tgt := 69) X dX12_plan_63 (by decide) (fun hc3 => ?_) (fun hc3 => ?_)
    · have hf := ite_yes hc3 hf
      refine r_goto (tgt := 99) X dX12_plan_66 (by decide) ?_
      refine r_iinc (lv2 := [(3, mI (x3 + 1)), (0, .ref (ad 0)), (1, mI x1), (2, mI x2)]) X 3 dX12_plan_99 rfl (by decide) rfl ?_
      refine r_goto (tgt := 49) X dX12_plan_102 (by decide) ?_
      refine r_perm (lv2 := [(0, .ref (ad 0)), (1, mI x1), (2, mI x2), (3, mI (x3 + 1))]) [1, 2, 3, 0] rfl ?_
      exact hkc _ _ _ _ hf
    · have hf := ite_no hc3 hf
      refine r_aload_n X 0 dX12_plan_69 rfl rfl ?_
      refine r_getR X fl_12_58 k_M_0_23 dX12_plan_70 ?_
      refine r_iload_n X 2 dX12_plan_73 rfl rfl ?_
      refine r_iload_n X 3 dX12_plan_74 rfl rfl ?_
      obtain ⟨q4, hq4, hf⟩ := bd_some hf
      refine r_callSI X (As := [mI x2, mI x3]) (st := [.ref (ad 14)]) (as := fun ad => [mI x2, mI x3]) (c_M_at hq4) rfl yw_X12_at ys_X12_at ml_RX12_225 ⟨rfl, rfl⟩ ⟨Nat.le_of_ble_eq_true rfl, Nat.le_of_ble_eq_true rfl⟩ rfl rfl (Nat.le_of_ble_eq_true rfl) dX12_plan_75 ?_
      refine r_iconst X dX12_plan_78 ?_
      obtain ⟨hg5, hf⟩ := gd_some hf
      refine r_iast X a_M_14 hg5 dX12_plan_79 ?_
      refine r_aload_n X 0 dX12_plan_80 rfl rfl ?_
      obtain ⟨q7, hq7, hf⟩ := bd_some hf
      refine r_callVI X (As := []) (st := []) (as := fun ad => [.ref (ad 0)]) (c_M_find hq7) rfl yw_X12_find yv_X12_find ml_RX12_239 o_M_0 rfl rfl ⟨rfl, rfl⟩ ⟨Nat.le_of_ble_eq_true rfl, Nat.le_of_ble_eq_true rfl⟩ rfl rfl (Nat.le_of_ble_eq_true rfl) dX12_plan_81 ?_
      refine r_iload_n X 1 dX12_plan_84 rfl rfl ?_
      refine r_icmp_eq (tgt := 99) X dX12_plan_85 (by decide) (fun hc8 => ?_) (fun hc8 => ?_)
      · have hf := ite_yes hc8 hf
        refine r_iinc (lv2 := [(3, mI (x3 + 1)), (0, .ref (ad 0)), (1, mI x1), (2, mI x2)]) X 3 dX12_plan_99 rfl (by decide) rfl ?_
        refine r_goto (tgt := 49) X dX12_plan_102 (by decide) ?_
        refine r_perm (lv2 := [(0, .ref (ad 0)), (1, mI x1), (2, mI x2), (3, mI (x3 + 1))]) [1, 2, 3, 0] rfl ?_
        exact hkc _ _ _ _ hf
      · have hf := ite_no hc8 hf
        refine r_aload_n X 0 dX12_plan_88 rfl rfl ?_
        refine r_getR X fl_12_58 k_M_0_23 dX12_plan_89 ?_
        refine r_iload_n X 2 dX12_plan_92 rfl rfl ?_
        refine r_iload_n X 3 dX12_plan_93 rfl rfl ?_
        obtain ⟨q9, hq9, hf⟩ := bd_some hf
        refine r_callSI X (As := [mI x2, mI x3]) (st := [.ref (ad 14)]) (as := fun ad => [mI x2, mI x3]) (c_M_at hq9) rfl yw_X12_at ys_X12_at ml_RX12_225 ⟨rfl, rfl⟩ ⟨Nat.le_of_ble_eq_true rfl, Nat.le_of_ble_eq_true rfl⟩ rfl rfl (Nat.le_of_ble_eq_true rfl) dX12_plan_94 ?_
        refine r_iconst X dX12_plan_97 ?_
        obtain ⟨hg10, hf⟩ := gd_some hf
        refine r_iast X a_M_14 hg10 dX12_plan_98 ?_
        refine r_iinc (lv2 := [(3, mI (x3 + 1)), (0, .ref (ad 0)), (1, mI x1), (2, mI x2)]) X 3 dX12_plan_99 rfl (by decide) rfl ?_
        refine r_goto (tgt := 49) X dX12_plan_102 (by decide) ?_
        refine r_perm (lv2 := [(0, .ref (ad 0)), (1, mI x1), (2, mI x2), (3, mI (x3 + 1))]) [1, 2, 3, 0] rfl ?_
        exact hkc _ _ _ _ hf
set_option maxRecDepth 100000 in
set_option maxHeartbeats 4000000 in
theorem l_M_plan_49_ok {p : Program} {l : Launch} {e : Env} {s : State} {m : MethodId} {args : Array Value} {below : List Frame} {meth : Method} {c : Code} {D : va_G} {cy : Nat → ClassId} {ad : Nat → Nat} (X : CX p s m args meth c cX12_plan RX12 6 (some .int) D shM cy ad (aw shM ad)) {F : Nat} {k105 : St → Int → Int → Option (Int × St)} {q : Int × St} (hk105 : ∀ sg x1 x2, k105 sg x1 x2 = some q → GG p l e rm_M_plan s m args below meth c (QI D shM cy ad below args s q) D shM cy ad (aw shM ad) 6 105 [(0, .ref (ad 0)), (1, mI x1), (2, mI x2)] [] sg) : ∀ (n : Nat) (sg : St) (x1 x2 x3 : Int), l_M_plan_49  F k105 n sg x1 x2 x3 = some q → GG p l e rm_M_plan s m args below meth c (QI D shM cy ad below args s q) D shM cy ad (aw shM ad) 6 49 [(0, .ref (ad 0)), (1, mI x1), (2, mI x2), (3, mI x3)] [] sg := by
  intro n
  induction n with
  | zero => intro sg x1 x2 x3 h; cases h
  | succ n ih => exact fun sg x1 x2 x3 h => b_M_plan_49_ok X ih hk105 h
set_option maxRecDepth 100000 in
set_option maxHeartbeats 4000000 in
theorem b_M_plan_39_ok {p : Program} {l : Launch} {e : Env} {s : State} {m : MethodId} {args : Array Value} {below : List Frame} {meth : Method} {c : Code} {D : va_G} {cy : Nat → ClassId} {ad : Nat → Nat} (X : CX p s m args meth c cX12_plan RX12 6 (some .int) D shM cy ad (aw shM ad)) {F : Nat} {kc : St → Int → Int → Option (Int × St)} {k111 : St → Int → Option (Int × St)} {q : Int × St} (hkc : ∀ sg x1 x2, kc sg x1 x2 = some q → GG p l e rm_M_plan s m args below meth c (QI D shM cy ad below args s q) D shM cy ad (aw shM ad) 6 39 [(0, .ref (ad 0)), (1, mI x1), (2, mI x2)] [] sg) (hk111 : ∀ sg x1, k111 sg x1 = some q → GG p l e rm_M_plan s m args below meth c (QI D shM cy ad below args s q) D shM cy ad (aw shM ad) 6 111 [(0, .ref (ad 0)), (1, mI x1)] [] sg) {sg : St} {x1 x2 : Int} (hf : b_M_plan_39  F kc k111 sg x1 x2 = some q) : GG p l e rm_M_plan s m args below meth c (QI D shM cy ad below args s q) D shM cy ad (aw shM ad) 6 39 [(0, .ref (ad 0)), (1, mI x1), (2, mI x2)] [] sg := by
  refine r_iload_n X 2 dX12_plan_39 rfl rfl ?_
  refine r_aload_n X 0 dX12_plan_40 rfl rfl ?_
  refine r_getI X fl_12_205 k_M_0_4 dX12_plan_41 ?_
  refine r_icmp_ge (tgt := 111) X dX12_plan_44 (by decide) (fun hc1 => ?_) (fun hc1 => ?_)
  · have hf := ite_yes hc1 hf
    refine r_perm (lv2 := [(0, .ref (ad 0)), (1, mI x1)]) [0, 1] rfl ?_
    exact hk111 _ _ hf
  · have hf := ite_no hc1 hf
    refine r_iconst X dX12_plan_47 ?_
    refine r_istore_n (lv2 := [(3, mI 0), (0, .ref (ad 0)), (1, mI x1), (2, mI x2)]) X dX12_plan_48 rfl (by decide) rfl ?_
    refine r_perm (lv2 := [(0, .ref (ad 0)), (1, mI x1), (2, mI x2), (3, mI 0)]) [1, 2, 3, 0] rfl ?_
    refine l_M_plan_49_ok X ?_ F _ _ _ _ hf
    · intro s2 x1_3 x2_4 hf
      refine r_iinc (lv2 := [(2, mI (x2_4 + 1)), (0, .ref (ad 0)), (1, mI x1_3)]) X 2 dX12_plan_105 rfl (by decide) rfl ?_
      refine r_goto (tgt := 39) X dX12_plan_108 (by decide) ?_
      refine r_perm (lv2 := [(0, .ref (ad 0)), (1, mI x1_3), (2, mI (x2_4 + 1))]) [1, 2, 0] rfl ?_
      exact hkc _ _ _ hf
set_option maxRecDepth 100000 in
set_option maxHeartbeats 4000000 in
theorem l_M_plan_39_ok {p : Program} {l : Launch} {e : Env} {s : State} {m : MethodId} {args : Array Value} {below : List Frame} {meth : Method} {c : Code} {D : va_G} {cy : Nat → ClassId} {ad : Nat → Nat} (X : CX p s m args meth c cX12_plan RX12 6 (some .int) D shM cy ad (aw shM ad)) {F : Nat} {k111 : St → Int → Option (Int × St)} {q : Int × St} (hk111 : ∀ sg x1, k111 sg x1 = some q → GG p l e rm_M_plan s m args below meth c (QI D shM cy ad below args s q) D shM cy ad (aw shM ad) 6 111 [(0, .ref (ad 0)), (1, mI x1)] [] sg) : ∀ (n : Nat) (sg : St) (x1 x2 : Int), l_M_plan_39  F k111 n sg x1 x2 = some q → GG p l e rm_M_plan s m args below meth c (QI D shM cy ad below args s q) D shM cy ad (aw shM ad) 6 39 [(0, .ref (ad 0)), (1, mI x1), (2, mI x2)] [] sg := by
  intro n
  induction n with
  | zero => intro sg x1 x2 h; cases h
  | succ n ih => exact fun sg x1 x2 h => b_M_plan_39_ok X ih hk111 h
set_option maxRecDepth 100000 in
set_option maxHeartbeats 4000000 in
theorem b_M_plan_12_ok {p : Program} {l : Launch} {e : Env} {s : State} {m : MethodId} {args : Array Value} {below : List Frame} {meth : Method} {c : Code} {D : va_G} {cy : Nat → ClassId} {ad : Nat → Nat} (X : CX p s m args meth c cX12_plan RX12 6 (some .int) D shM cy ad (aw shM ad)) {F : Nat} {kc : St → Int → Option (Int × St)} {k32 : St → Option (Int × St)} {q : Int × St} (hkc : ∀ sg x1, kc sg x1 = some q → GG p l e rm_M_plan s m args below meth c (QI D shM cy ad below args s q) D shM cy ad (aw shM ad) 6 12 [(0, .ref (ad 0)), (1, mI x1)] [] sg) (hk32 : ∀ sg , k32 sg  = some q → GG p l e rm_M_plan s m args below meth c (QI D shM cy ad below args s q) D shM cy ad (aw shM ad) 6 32 [(0, .ref (ad 0))] [] sg) {sg : St} {x1 : Int} (hf : b_M_plan_12  F kc k32 sg x1 = some q) : GG p l e rm_M_plan s m args below meth c (QI D shM cy ad below args s q) D shM cy ad (aw shM ad) 6 12 [(0, .ref (ad 0)), (1, mI x1)] [] sg := by
  refine r_iload_n X 1 dX12_plan_12 rfl rfl ?_
  refine r_sipush X dX12_plan_13 (by decide) ?_
  refine r_icmp_ge (tgt := 32) X dX12_plan_16 (by decide) (fun hc1 => ?_) (fun hc1 => ?_)
  · have hf := ite_yes hc1 hf
    refine r_perm (lv2 := [(0, .ref (ad 0))]) [0] rfl ?_
    exact hk32 _ hf
  · have hf := ite_no hc1 hf
    refine r_aload_n X 0 dX12_plan_19 rfl rfl ?_
    refine r_getR X fl_12_58 k_M_0_23 dX12_plan_20 ?_
    refine r_iload_n X 1 dX12_plan_23 rfl rfl ?_
    refine r_iconst X dX12_plan_24 ?_
    obtain ⟨hg2, hf⟩ := gd_some hf
    refine r_iast X a_M_14 hg2 dX12_plan_25 ?_
    refine r_iinc (lv2 := [(1, mI (x1 + 1)), (0, .ref (ad 0))]) X 1 dX12_plan_26 rfl (by decide) rfl ?_
    refine r_goto (tgt := 12) X dX12_plan_29 (by decide) ?_
    refine r_perm (lv2 := [(0, .ref (ad 0)), (1, mI (x1 + 1))]) [1, 0] rfl ?_
    exact hkc _ _ hf
set_option maxRecDepth 100000 in
set_option maxHeartbeats 4000000 in
theorem l_M_plan_12_ok {p : Program} {l : Launch} {e : Env} {s : State} {m : MethodId} {args : Array Value} {below : List Frame} {meth : Method} {c : Code} {D : va_G} {cy : Nat → ClassId} {ad : Nat → Nat} (X : CX p s m args meth c cX12_plan RX12 6 (some .int) D shM cy ad (aw shM ad)) {F : Nat} {k32 : St → Option (Int × St)} {q : Int × St} (hk32 : ∀ sg , k32 sg  = some q → GG p l e rm_M_plan s m args below meth c (QI D shM cy ad below args s q) D shM cy ad (aw shM ad) 6 32 [(0, .ref (ad 0))] [] sg) : ∀ (n : Nat) (sg : St) (x1 : Int), l_M_plan_12  F k32 n sg x1 = some q → GG p l e rm_M_plan s m args below meth c (QI D shM cy ad below args s q) D shM cy ad (aw shM ad) 6 12 [(0, .ref (ad 0)), (1, mI x1)] [] sg := by
  intro n
  induction n with
  | zero => intro sg x1 h; cases h
  | succ n ih => exact fun sg x1 h => b_M_plan_12_ok X ih hk32 h
set_option maxRecDepth 100000 in
set_option maxHeartbeats 4000000 in
theorem c_M_plan {l : Launch} {F : Nat} {sg : St} {q : Int × St} (hf : f_M_plan F  sg  = some q) : MI l shM yX12_plan cX12_plan 6 (some .int) rm_M_plan (fun ad => [.ref (ad 0)]) sg q.2 q.1 := by
  refine mk_i (by decide) (fun _ => Nat.le_of_ble_eq_true rfl) (fun p e s m args below meth c D cy ad X => ?_)
  have X : CX p s m args meth c cX12_plan RX12 6 (some .int) D shM cy ad (aw shM ad) := X
  refine r_perm (lv2 := [(0, .ref (ad 0))]) [0] rfl ?_
  refine r_aload_n X 0 dX12_plan_0 rfl rfl ?_
  refine r_iconst X dX12_plan_1 ?_
  refine r_putI X fp_12_195 k_M_0_1 rfl rfl dX12_plan_2 ?_
  refine r_aload_n X 0 dX12_plan_5 rfl rfl ?_
  refine r_iconst X dX12_plan_6 ?_
  refine r_putI X fp_12_198 k_M_0_0 rfl rfl dX12_plan_7 ?_
  refine r_iconst X dX12_plan_10 ?_
  refine r_istore_n (lv2 := [(1, mI 0), (0, .ref (ad 0))]) X dX12_plan_11 rfl (by decide) rfl ?_
  refine r_perm (lv2 := [(0, .ref (ad 0)), (1, mI 0)]) [1, 0] rfl ?_
  refine l_M_plan_12_ok X ?_ F _ _ hf
  · intro s3  hf
    refine r_aload_n X 0 dX12_plan_32 rfl rfl ?_
    obtain ⟨q4, hq4, hf⟩ := bd_some hf
    refine r_callVI X (As := []) (st := []) (as := fun ad => [.ref (ad 0)]) (c_M_find hq4) rfl yw_X12_find yv_X12_find ml_RX12_239 o_M_0 rfl rfl ⟨rfl, rfl⟩ ⟨Nat.le_of_ble_eq_true rfl, Nat.le_of_ble_eq_true rfl⟩ rfl rfl (Nat.le_of_ble_eq_true rfl) dX12_plan_33 ?_
    refine r_istore_n (lv2 := [(1, mI q4.1), (0, .ref (ad 0))]) X dX12_plan_36 rfl (by decide) rfl ?_
    refine r_iconst X dX12_plan_37 ?_
    refine r_istore_n (lv2 := [(2, mI 0), (1, mI q4.1), (0, .ref (ad 0))]) X dX12_plan_38 rfl (by decide) rfl ?_
    refine r_perm (lv2 := [(0, .ref (ad 0)), (1, mI q4.1), (2, mI 0)]) [2, 1, 0] rfl ?_
    refine l_M_plan_39_ok X ?_ F _ _ _ hf
    · intro s5 x1_6 hf
      refine r_iconst X dX12_plan_111 ?_
      refine r_istore_n (lv2 := [(2, mI 0), (0, .ref (ad 0)), (1, mI x1_6)]) X dX12_plan_112 rfl (by decide) rfl ?_
      refine r_perm (lv2 := [(0, .ref (ad 0)), (1, mI x1_6), (2, mI 0)]) [1, 2, 0] rfl ?_
      refine l_M_plan_113_ok X ?_ F _ _ _ hf
      · intro s7 x1_8 hf
        refine r_aload_n X 0 dX12_plan_147 rfl rfl ?_
        refine r_iconst X dX12_plan_148 ?_
        refine r_putI X fp_12_243 k_M_0_15 rfl rfl dX12_plan_149 ?_
        refine r_aload_n X 0 dX12_plan_152 rfl rfl ?_
        refine r_aload_n X 0 dX12_plan_153 rfl rfl ?_
        refine r_getI X fl_12_205 k_M_0_4 dX12_plan_154 ?_
        refine r_putI X fp_12_247 k_M_0_16 rfl rfl dX12_plan_157 ?_
        refine r_aload_n X 0 dX12_plan_160 rfl rfl ?_
        refine r_aload_n X 0 dX12_plan_161 rfl rfl ?_
        refine r_getI X fl_12_208 k_M_0_5 dX12_plan_162 ?_
        refine r_putI X fp_12_250 k_M_0_17 rfl rfl dX12_plan_165 ?_
        refine r_iconst X dX12_plan_168 ?_
        refine r_istore_n (lv2 := [(2, mI 0), (0, .ref (ad 0)), (1, mI x1_8)]) X dX12_plan_169 rfl (by decide) rfl ?_
        refine r_perm (lv2 := [(0, .ref (ad 0)), (1, mI x1_8), (2, mI 0)]) [1, 2, 0] rfl ?_
        refine l_M_plan_170_ok X ?_ F _ _ _ hf
        · intro s12 x1_13 hf
          refine r_iconst X dX12_plan_245 ?_
          refine r_istore_n (lv2 := [(2, mI 1), (0, .ref (ad 0)), (1, mI x1_13)]) X dX12_plan_246 rfl (by decide) rfl ?_
          refine r_perm (lv2 := [(0, .ref (ad 0)), (1, mI x1_13), (2, mI 1)]) [1, 2, 0] rfl ?_
          refine l_M_plan_247_ok X ?_ F _ _ _ hf
          · intro s14 x1_15 hf
            refine r_aload_n X 0 dX12_plan_382 rfl rfl ?_
            refine r_getI X fl_12_13 k_M_0_6 dX12_plan_383 ?_
            refine r_aload_n X 0 dX12_plan_386 rfl rfl ?_
            refine r_getI X fl_12_205 k_M_0_4 dX12_plan_387 ?_
            refine r_imul X dX12_plan_390 ?_
            refine r_iload_n X 1 dX12_plan_391 rfl rfl ?_
            refine r_isub X dX12_plan_392 ?_
            exact r_ireturn X hf dX12_plan_393
