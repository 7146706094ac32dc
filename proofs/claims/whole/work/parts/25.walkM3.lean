set_option maxRecDepth 100000 in
set_option maxHeartbeats 4000000 in
theorem b_M_lay_2_ok {p : Program} {l : Launch} {e : Env} {s : State} {m : MethodId} {args : Array Value} {below : List Frame} {meth : Method} {c : Code} {D : va_G} {cy : Nat → ClassId} {ad : Nat → Nat} (X : CX p s m args meth c cX12_lay RX12 3 none D shM cy ad (aw shM ad)) {F : Nat} {kc : St → Int → Int → Option (St)} {k38 : St → Option (St)} {q : St} (hkc : ∀ sg x1 x2, kc sg x1 x2 = some q → GG p l e rm_M_lay s m args below meth c (QV D shM cy ad below args s q) D shM cy ad (aw shM ad) 3 2 [(0, .ref (ad 0)), (1, mI x1), (2, mI x2)] [] sg) (hk38 : ∀ sg , k38 sg  = some q → GG p l e rm_M_lay s m args below meth c (QV D shM cy ad below args s q) D shM cy ad (aw shM ad) 3 38 [] [] sg) {sg : St} {x1 x2 : Int} (hf : b_M_lay_2  F kc k38 sg x1 x2 = some q) : GG p l e rm_M_lay s m args below meth c (QV D shM cy ad below args s q) D shM cy ad (aw shM ad) 3 2 [(0, .ref (ad 0)), (1, mI x1), (2, mI x2)] [] sg := by
  refine r_iload_n X 2 dX12_lay_2 rfl rfl ?_
  refine r_if_lt (tgt := 38) X dX12_lay_3 (by decide) (fun hc1 => ?_) (fun hc1 => ?_)
  · have hf := ite_yes hc1 hf
    refine r_perm (lv2 := []) [] rfl ?_
    exact hk38 _ hf
  · have hf := ite_no hc1 hf
    refine r_aload_n X 0 dX12_lay_6 rfl rfl ?_
    refine r_getR X fl_12_113 k_M_0_44 dX12_lay_7 ?_
    refine r_aload_n X 0 dX12_lay_10 rfl rfl ?_
    refine r_getI X fl_12_378 k_M_0_45 dX12_lay_11 ?_
    refine r_iload_n X 1 dX12_lay_14 rfl rfl ?_
    refine r_bipush X dX12_lay_15 (by decide) ?_
    refine r_iload_n X 2 dX12_lay_17 rfl rfl ?_
    refine r_imul X dX12_lay_18 ?_
    refine r_ishr X dX12_lay_19 ?_
    refine r_i2b X dX12_lay_20 ?_
    obtain ⟨hg2, hf⟩ := gd_some hf
    refine r_bast X a_M_32 hg2 dX12_lay_21 ?_
    refine r_aload_n X 0 dX12_lay_22 rfl rfl ?_
    refine r_dup X dX12_lay_23 rfl ?_
    refine r_getI X fl_12_378 k_M_0_45 dX12_lay_24 ?_
    refine r_iconst X dX12_lay_27 ?_
    refine r_iadd X dX12_lay_28 ?_
    refine r_putI X fp_12_378 k_M_0_45 rfl rfl dX12_lay_29 ?_
    refine r_iinc (lv2 := [(2, mI (x2 + (-1))), (0, .ref (ad 0)), (1, mI x1)]) X 2 dX12_lay_32 rfl (by decide) rfl ?_
    refine r_goto (tgt := 2) X dX12_lay_35 (by decide) ?_
    refine r_perm (lv2 := [(0, .ref (ad 0)), (1, mI x1), (2, mI (x2 + (-1)))]) [1, 2, 0] rfl ?_
    exact hkc _ _ _ hf
set_option maxRecDepth 100000 in
set_option maxHeartbeats 4000000 in
theorem l_M_lay_2_ok {p : Program} {l : Launch} {e : Env} {s : State} {m : MethodId} {args : Array Value} {below : List Frame} {meth : Method} {c : Code} {D : va_G} {cy : Nat → ClassId} {ad : Nat → Nat} (X : CX p s m args meth c cX12_lay RX12 3 none D shM cy ad (aw shM ad)) {F : Nat} {k38 : St → Option (St)} {q : St} (hk38 : ∀ sg , k38 sg  = some q → GG p l e rm_M_lay s m args below meth c (QV D shM cy ad below args s q) D shM cy ad (aw shM ad) 3 38 [] [] sg) : ∀ (n : Nat) (sg : St) (x1 x2 : Int), l_M_lay_2  F k38 n sg x1 x2 = some q → GG p l e rm_M_lay s m args below meth c (QV D shM cy ad below args s q) D shM cy ad (aw shM ad) 3 2 [(0, .ref (ad 0)), (1, mI x1), (2, mI x2)] [] sg := by
  intro n
  induction n with
  | zero => intro sg x1 x2 h; cases h
  | succ n ih => exact fun sg x1 x2 h => b_M_lay_2_ok X ih hk38 h
set_option maxRecDepth 100000 in
set_option maxHeartbeats 4000000 in
theorem c_M_lay {l : Launch} {F : Nat} {sg : St} {x1 : Int} {q : St} (hf : f_M_lay F  sg x1 = some q) : MV l shM yX12_lay cX12_lay 3 none rm_M_lay (fun ad => [.ref (ad 0), mI x1]) sg q := by
  refine mk_v (by decide) (fun _ => Nat.le_of_ble_eq_true rfl) (fun p e s m args below meth c D cy ad X => ?_)
  have X : CX p s m args meth c cX12_lay RX12 3 none D shM cy ad (aw shM ad) := X
  refine r_perm (lv2 := [(0, .ref (ad 0)), (1, mI x1)]) [0, 1] rfl ?_
  refine r_iconst X dX12_lay_0 ?_
  refine r_istore_n (lv2 := [(2, mI 3), (0, .ref (ad 0)), (1, mI x1)]) X dX12_lay_1 rfl (by decide) rfl ?_
  refine r_perm (lv2 := [(0, .ref (ad 0)), (1, mI x1), (2, mI 3)]) [1, 2, 0] rfl ?_
  refine l_M_lay_2_ok X ?_ F _ _ _ hf
  · intro s1  hf
    exact r_vreturn X hf dX12_lay_38
set_option maxRecDepth 100000 in
set_option maxHeartbeats 4000000 in
theorem b_M_prizes_161_ok {p : Program} {l : Launch} {e : Env} {s : State} {m : MethodId} {args : Array Value} {below : List Frame} {meth : Method} {c : Code} {D : va_G} {cy : Nat → ClassId} {ad : Nat → Nat} (X : CX p s m args meth c cX12_prizes RX12 3 (some .int) D shM cy ad (aw shM ad)) {F : Nat} {kc : St → Int → Option (Int × St)} {k247 : St → Option (Int × St)} {q : Int × St} (hkc : ∀ sg x2, kc sg x2 = some q → GG p l e rm_M_prizes s m args below meth c (QI D shM cy ad below args s q) D shM cy ad (aw shM ad) 3 161 [(0, .ref (ad 0)), (2, mI x2)] [] sg) (hk247 : ∀ sg , k247 sg  = some q → GG p l e rm_M_prizes s m args below meth c (QI D shM cy ad below args s q) D shM cy ad (aw shM ad) 3 247 [(0, .ref (ad 0))] [] sg) {sg : St} {x2 : Int} (hf : b_M_prizes_161  F kc k247 sg x2 = some q) : GG p l e rm_M_prizes s m args below meth c (QI D shM cy ad below args s q) D shM cy ad (aw shM ad) 3 161 [(0, .ref (ad 0)), (2, mI x2)] [] sg := by
  refine r_iload_n X 1 dX12_prizes_161 rfl rfl ?_
  refine r_aload_n X 0 dX12_prizes_162 rfl rfl ?_
  refine r_getI X fl_12_387 k_M_0_51 dX12_prizes_163 ?_
  refine r_icmp_ge (tgt := 247) X dX12_prizes_166 (by decide) (fun hc1 => ?_) (fun hc1 => ?_)
  · have hf := ite_yes hc1 hf
    refine r_perm (lv2 := [(0, .ref (ad 0))]) [0] rfl ?_
    exact hk247 _ hf
  · have hf := ite_no hc1 hf
    refine r_aload_n X 0 dX12_prizes_169 rfl rfl ?_
    refine r_getR X fl_12_123 k_M_0_53 dX12_prizes_170 ?_
    refine r_iload_n X 1 dX12_prizes_173 rfl rfl ?_
    refine r_aload_n X 0 dX12_prizes_174 rfl rfl ?_
    refine r_getR X fl_12_141 k_M_0_59 dX12_prizes_175 ?_
    refine r_iload_n X 1 dX12_prizes_178 rfl rfl ?_
    obtain ⟨hg2, hf⟩ := gd_some hf
    refine r_iald X a_M_39 hg2 dX12_prizes_179 ?_
    obtain ⟨hg3, hf⟩ := gd_some hf
    refine r_iast X a_M_33 hg3 dX12_prizes_180 ?_
    refine r_aload_n X 0 dX12_prizes_181 rfl rfl ?_
    refine r_getR X fl_12_126 k_M_0_54 dX12_prizes_182 ?_
    refine r_iload_n X 1 dX12_prizes_185 rfl rfl ?_
    refine r_aload_n X 0 dX12_prizes_186 rfl rfl ?_
    refine r_getR X fl_12_144 k_M_0_60 dX12_prizes_187 ?_
    refine r_iload_n X 1 dX12_prizes_190 rfl rfl ?_
    obtain ⟨hg5, hf⟩ := gd_some hf
    refine r_iald X a_M_40 hg5 dX12_prizes_191 ?_
    obtain ⟨hg6, hf⟩ := gd_some hf
    refine r_iast X a_M_34 hg6 dX12_prizes_192 ?_
    refine r_aload_n X 0 dX12_prizes_193 rfl rfl ?_
    refine r_getR X fl_12_129 k_M_0_55 dX12_prizes_194 ?_
    refine r_iload_n X 1 dX12_prizes_197 rfl rfl ?_
    refine r_aload_n X 0 dX12_prizes_198 rfl rfl ?_
    refine r_getR X fl_12_147 k_M_0_61 dX12_prizes_199 ?_
    refine r_iload_n X 1 dX12_prizes_202 rfl rfl ?_
    obtain ⟨hg8, hf⟩ := gd_some hf
    refine r_iald X a_M_41 hg8 dX12_prizes_203 ?_
    obtain ⟨hg9, hf⟩ := gd_some hf
    refine r_iast X a_M_35 hg9 dX12_prizes_204 ?_
    refine r_aload_n X 0 dX12_prizes_205 rfl rfl ?_
    refine r_getR X fl_12_132 k_M_0_56 dX12_prizes_206 ?_
    refine r_iload_n X 1 dX12_prizes_209 rfl rfl ?_
    refine r_aload_n X 0 dX12_prizes_210 rfl rfl ?_
    refine r_getR X fl_12_150 k_M_0_62 dX12_prizes_211 ?_
    refine r_iload_n X 1 dX12_prizes_214 rfl rfl ?_
    obtain ⟨hg11, hf⟩ := gd_some hf
    refine r_iald X a_M_42 hg11 dX12_prizes_215 ?_
    obtain ⟨hg12, hf⟩ := gd_some hf
    refine r_iast X a_M_36 hg12 dX12_prizes_216 ?_
    refine r_aload_n X 0 dX12_prizes_217 rfl rfl ?_
    refine r_getR X fl_12_135 k_M_0_57 dX12_prizes_218 ?_
    refine r_iload_n X 1 dX12_prizes_221 rfl rfl ?_
    refine r_aload_n X 0 dX12_prizes_222 rfl rfl ?_
    refine r_getR X fl_12_153 k_M_0_63 dX12_prizes_223 ?_
    refine r_iload_n X 1 dX12_prizes_226 rfl rfl ?_
    obtain ⟨hg14, hf⟩ := gd_some hf
    refine r_iald X a_M_43 hg14 dX12_prizes_227 ?_
    obtain ⟨hg15, hf⟩ := gd_some hf
    refine r_iast X a_M_37 hg15 dX12_prizes_228 ?_
    refine r_aload_n X 0 dX12_prizes_229 rfl rfl ?_
    refine r_getR X fl_12_138 k_M_0_58 dX12_prizes_230 ?_
    refine r_iload_n X 1 dX12_prizes_233 rfl rfl ?_
    refine r_aload_n X 0 dX12_prizes_234 rfl rfl ?_
    refine r_getR X fl_12_156 k_M_0_64 dX12_prizes_235 ?_
    refine r_iload_n X 1 dX12_prizes_238 rfl rfl ?_
    obtain ⟨hg17, hf⟩ := gd_some hf
    refine r_zald X a_M_44 hg17 dX12_prizes_239 ?_
    obtain ⟨hg18, hf⟩ := gd_some hf
    refine r_zast X a_M_38 hg18 dX12_prizes_240 ?_
    refine r_iinc (lv2 := [(2, mI (x2 + 1)), (0, .ref (ad 0))]) X 1 dX12_prizes_241 rfl (by decide) rfl ?_
    refine r_goto (tgt := 161) X dX12_prizes_244 (by decide) ?_
    refine r_perm (lv2 := [(0, .ref (ad 0)), (2, mI (x2 + 1))]) [1, 0] rfl ?_
    exact hkc _ _ hf
set_option maxRecDepth 100000 in
set_option maxHeartbeats 4000000 in
theorem l_M_prizes_161_ok {p : Program} {l : Launch} {e : Env} {s : State} {m : MethodId} {args : Array Value} {below : List Frame} {meth : Method} {c : Code} {D : va_G} {cy : Nat → ClassId} {ad : Nat → Nat} (X : CX p s m args meth c cX12_prizes RX12 3 (some .int) D shM cy ad (aw shM ad)) {F : Nat} {k247 : St → Option (Int × St)} {q : Int × St} (hk247 : ∀ sg , k247 sg  = some q → GG p l e rm_M_prizes s m args below meth c (QI D shM cy ad below args s q) D shM cy ad (aw shM ad) 3 247 [(0, .ref (ad 0))] [] sg) : ∀ (n : Nat) (sg : St) (x2 : Int), l_M_prizes_161  F k247 n sg x2 = some q → GG p l e rm_M_prizes s m args below meth c (QI D shM cy ad below args s q) D shM cy ad (aw shM ad) 3 161 [(0, .ref (ad 0)), (2, mI x2)] [] sg := by
  intro n
  induction n with
  | zero => intro sg x2 h; cases h
  | succ n ih => exact fun sg x2 h => b_M_prizes_161_ok X ih hk247 h
set_option maxRecDepth 100000 in
set_option maxHeartbeats 4000000 in
theorem b_M_prizes_57_ok {p : Program} {l : Launch} {e : Env} {s : State} {m : MethodId} {args : Array Value} {below : List Frame} {meth : Method} {c : Code} {D : va_G} {cy : Nat → ClassId} {ad : Nat → Nat} (X : CX p s m args meth c cX12_prizes RX12 3 (some .int) D shM cy ad (aw shM ad)) {F : Nat} {kc : St → Option (Int × St)} {k92 : St → Option (Int × St)} {q : Int × St} (hkc : ∀ sg , kc sg  = some q → GG p l e rm_M_prizes s m args below meth c (QI D shM cy ad below args s q) D shM cy ad (aw shM ad) 3 57 [(0, .ref (ad 0))] [] sg) (hk92 : ∀ sg , k92 sg  = some q → GG p l e rm_M_prizes s m args below meth c (QI D shM cy ad below args s q) D shM cy ad (aw shM ad) 3 92 [(0, .ref (ad 0))] [] sg) {sg : St} (hf : b_M_prizes_57  F kc k92 sg  = some q) : GG p l e rm_M_prizes s m args below meth c (QI D shM cy ad below args s q) D shM cy ad (aw shM ad) 3 57 [(0, .ref (ad 0))] [] sg := by
  refine r_aload_n X 0 dX12_prizes_57 rfl rfl ?_
  refine r_getI X fl_12_345 k_M_0_49 dX12_prizes_58 ?_
  refine r_if_ne (tgt := 92) X dX12_prizes_61 (by decide) (fun hc1 => ?_) (fun hc1 => ?_)
  · have hf := ite_yes hc1 hf
    refine r_aload_n X 0 dX12_prizes_64 rfl rfl ?_
    refine r_bipush X dX12_prizes_65 (by decide) ?_
    refine r_bipush X dX12_prizes_67 (by decide) ?_
    refine r_bipush X dX12_prizes_69 (by decide) ?_
    refine r_bipush X dX12_prizes_71 (by decide) ?_
    refine r_bipush X dX12_prizes_73 (by decide) ?_
    refine r_iconst X dX12_prizes_75 ?_
    obtain ⟨q2, hq2, hf⟩ := bd_some hf
    refine r_callSL X (As := [mI 112, mI 114, mI 105, mI 122, mI 101, mI 0]) (st := [.ref (ad 0)]) (as := fun ad => [mI 112, mI 114, mI 105, mI 122, mI 101, mI 0]) (c_M_spelled hq2) rfl yw_X12_spelled ys_X12_spelled ml_RX12_361 ⟨rfl, rfl⟩ ⟨Nat.le_of_ble_eq_true rfl, Nat.le_of_ble_eq_true rfl⟩ rfl rfl (Nat.le_of_ble_eq_true rfl) dX12_prizes_76 ?_
    obtain ⟨q3, hq3, hf⟩ := bd_some hf
    refine r_callVI X (As := [mL q2.1]) (st := []) (as := fun ad => [.ref (ad 0), mL q2.1]) (c_M_isWord hq3) rfl yw_X12_isWord yv_X12_isWord ml_RX12_365 o_M_0 rfl rfl ⟨rfl, rfl⟩ ⟨Nat.le_of_ble_eq_true rfl, Nat.le_of_ble_eq_true rfl⟩ rfl rfl (Nat.le_of_ble_eq_true rfl) dX12_prizes_79 ?_
    refine r_if_eq (tgt := 92) X dX12_prizes_82 (by decide) (fun hc4 => ?_) (fun hc4 => ?_)
    · have hf := ite_yes hc4 hf
      exact hk92 _ hf
    · have hf := ite_no hc4 hf
      refine r_aload_n X 0 dX12_prizes_85 rfl rfl ?_
      obtain ⟨q5, hq5, hf⟩ := bd_some hf
      refine r_callVV X (As := []) (st := []) (as := fun ad => [.ref (ad 0)]) (c_M_readPrize hq5) rfl yw_X12_readPrize yv_X12_readPrize ml_RX12_384 o_M_0 rfl rfl ⟨rfl, rfl⟩ ⟨Nat.le_of_ble_eq_true rfl, Nat.le_of_ble_eq_true rfl⟩ rfl rfl (Nat.le_of_ble_eq_true rfl) dX12_prizes_86 ?_
      refine r_goto (tgt := 57) X dX12_prizes_89 (by decide) ?_
      exact hkc _ hf
  · have hf := ite_no hc1 hf
    exact hk92 _ hf
set_option maxRecDepth 100000 in
set_option maxHeartbeats 4000000 in
theorem l_M_prizes_57_ok {p : Program} {l : Launch} {e : Env} {s : State} {m : MethodId} {args : Array Value} {below : List Frame} {meth : Method} {c : Code} {D : va_G} {cy : Nat → ClassId} {ad : Nat → Nat} (X : CX p s m args meth c cX12_prizes RX12 3 (some .int) D shM cy ad (aw shM ad)) {F : Nat} {k92 : St → Option (Int × St)} {q : Int × St} (hk92 : ∀ sg , k92 sg  = some q → GG p l e rm_M_prizes s m args below meth c (QI D shM cy ad below args s q) D shM cy ad (aw shM ad) 3 92 [(0, .ref (ad 0))] [] sg) : ∀ (n : Nat) (sg : St) , l_M_prizes_57  F k92 n sg  = some q → GG p l e rm_M_prizes s m args below meth c (QI D shM cy ad below args s q) D shM cy ad (aw shM ad) 3 57 [(0, .ref (ad 0))] [] sg := by
  intro n
  induction n with
  | zero => intro sg  h; cases h
  | succ n ih => exact fun sg  h => b_M_prizes_57_ok X ih hk92 h
set_option maxRecDepth 100000 in
set_option maxHeartbeats 4000000 in
theorem b_M_prizes_134_ok {p : Program} {l : Launch} {e : Env} {s : State} {m : MethodId} {args : Array Value} {below : List Frame} {meth : Method} {c : Code} {D : va_G} {cy : Nat → ClassId} {ad : Nat → Nat} (X : CX p s m args meth c cX12_prizes RX12 3 (some .int) D shM cy ad (aw shM ad)) {F : Nat} {q : Int × St} {sg : St} {z0 : Int} (hf : b_M_prizes_134  F  sg z0 = some q) : GG p l e rm_M_prizes s m args below meth c (QI D shM cy ad below args s q) D shM cy ad (aw shM ad) 3 134 [(0, .ref (ad 0))] [mI z0, .ref (ad 0)] sg := by
  refine r_putI X fp_12_120 k_M_0_48 rfl rfl dX12_prizes_134 ?_
  refine r_aload_n X 0 dX12_prizes_137 rfl rfl ?_
  refine r_getI X fl_12_345 k_M_0_49 dX12_prizes_138 ?_
  refine r_if_le (tgt := 151) X dX12_prizes_141 (by decide) (fun hc2 => ?_) (fun hc2 => ?_)
  · have hf := ite_yes hc2 hf
    refine r_aload_n X 0 dX12_prizes_151 rfl rfl ?_
    refine r_aload_n X 0 dX12_prizes_152 rfl rfl ?_
    refine r_getI X fl_12_369 k_M_0_52 dX12_prizes_153 ?_
    refine r_putI X fp_12_387 k_M_0_51 rfl rfl dX12_prizes_156 ?_
    refine r_iconst X dX12_prizes_159 ?_
    refine r_istore_n (lv2 := [(2, mI 0), (0, .ref (ad 0))]) X dX12_prizes_160 rfl (by decide) rfl ?_
    refine r_perm (lv2 := [(0, .ref (ad 0)), (2, mI 0)]) [1, 0] rfl ?_
    refine l_M_prizes_161_ok X ?_ F _ _ hf
    · intro s5  hf
      refine r_aload_n X 0 dX12_prizes_247 rfl rfl ?_
      refine r_getI X fl_12_387 k_M_0_51 dX12_prizes_248 ?_
      exact r_ireturn X hf dX12_prizes_251
  · have hf := ite_no hc2 hf
    refine r_aload_n X 0 dX12_prizes_144 rfl rfl ?_
    refine r_bipush X dX12_prizes_145 (by decide) ?_
    obtain ⟨q3, hq3, hf⟩ := bd_some hf
    refine r_callVI X (As := [mI 7]) (st := []) (as := fun ad => [.ref (ad 0), mI 7]) (c_M_refuse hq3) rfl yw_X12_refuse yv_X12_refuse ml_RX12_201 o_M_0 rfl rfl ⟨rfl, rfl⟩ ⟨Nat.le_of_ble_eq_true rfl, Nat.le_of_ble_eq_true rfl⟩ rfl rfl (Nat.le_of_ble_eq_true rfl) dX12_prizes_147 ?_
    exact r_ireturn X hf dX12_prizes_150
set_option maxRecDepth 100000 in
set_option maxHeartbeats 4000000 in
theorem b_M_prizes_110_ok {p : Program} {l : Launch} {e : Env} {s : State} {m : MethodId} {args : Array Value} {below : List Frame} {meth : Method} {c : Code} {D : va_G} {cy : Nat → ClassId} {ad : Nat → Nat} (X : CX p s m args meth c cX12_prizes RX12 3 (some .int) D shM cy ad (aw shM ad)) {F : Nat} {q : Int × St} {sg : St} (hf : b_M_prizes_110  F  sg  = some q) : GG p l e rm_M_prizes s m args below meth c (QI D shM cy ad below args s q) D shM cy ad (aw shM ad) 3 110 [(0, .ref (ad 0))] [] sg := by
  refine r_aload_n X 0 dX12_prizes_110 rfl rfl ?_
  refine r_aload_n X 0 dX12_prizes_111 rfl rfl ?_
  refine r_getI X fl_12_345 k_M_0_49 dX12_prizes_112 ?_
  refine r_putI X fp_12_117 k_M_0_47 rfl rfl dX12_prizes_115 ?_
  refine r_aload_n X 0 dX12_prizes_118 rfl rfl ?_
  refine r_aload_n X 0 dX12_prizes_119 rfl rfl ?_
  refine r_getI X fl_12_345 k_M_0_49 dX12_prizes_120 ?_
  refine r_if_ne (tgt := 130) X dX12_prizes_123 (by decide) (fun hc2 => ?_) (fun hc2 => ?_)
  · have hf := ite_yes hc2 hf
    refine r_iconst X dX12_prizes_126 ?_
    refine r_goto (tgt := 134) X dX12_prizes_127 (by decide) ?_
    exact b_M_prizes_134_ok X  hf
  · have hf := ite_no hc2 hf
    refine r_aload_n X 0 dX12_prizes_130 rfl rfl ?_
    refine r_getI X fl_12_348 k_M_0_50 dX12_prizes_131 ?_
    exact b_M_prizes_134_ok X  hf
set_option maxRecDepth 100000 in
set_option maxHeartbeats 4000000 in
theorem b_M_prizes_92_ok {p : Program} {l : Launch} {e : Env} {s : State} {m : MethodId} {args : Array Value} {below : List Frame} {meth : Method} {c : Code} {D : va_G} {cy : Nat → ClassId} {ad : Nat → Nat} (X : CX p s m args meth c cX12_prizes RX12 3 (some .int) D shM cy ad (aw shM ad)) {F : Nat} {q : Int × St} {sg : St} (hf : b_M_prizes_92  F  sg  = some q) : GG p l e rm_M_prizes s m args below meth c (QI D shM cy ad below args s q) D shM cy ad (aw shM ad) 3 92 [(0, .ref (ad 0))] [] sg := by
  refine r_aload_n X 0 dX12_prizes_92 rfl rfl ?_
  refine r_getI X fl_12_345 k_M_0_49 dX12_prizes_93 ?_
  refine r_if_ne (tgt := 110) X dX12_prizes_96 (by decide) (fun hc1 => ?_) (fun hc1 => ?_)
  · have hf := ite_yes hc1 hf
    refine r_aload_n X 0 dX12_prizes_99 rfl rfl ?_
    refine r_getI X fl_12_326 k_M_0_81 dX12_prizes_100 ?_
    refine r_if_eq (tgt := 110) X dX12_prizes_103 (by decide) (fun hc2 => ?_) (fun hc2 => ?_)
    · have hf := ite_yes hc2 hf
      exact b_M_prizes_110_ok X  hf
    · have hf := ite_no hc2 hf
      refine r_aload_n X 0 dX12_prizes_106 rfl rfl ?_
      obtain ⟨q3, hq3, hf⟩ := bd_some hf
      refine r_callVV X (As := []) (st := []) (as := fun ad => [.ref (ad 0)]) (c_M_wrong hq3) rfl yw_X12_wrong yv_X12_wrong ml_RX12_355 o_M_0 rfl rfl ⟨rfl, rfl⟩ ⟨Nat.le_of_ble_eq_true rfl, Nat.le_of_ble_eq_true rfl⟩ rfl rfl (Nat.le_of_ble_eq_true rfl) dX12_prizes_107 ?_
      exact b_M_prizes_110_ok X  hf
  · have hf := ite_no hc1 hf
    exact b_M_prizes_110_ok X  hf
set_option maxRecDepth 100000 in
set_option maxHeartbeats 4000000 in
theorem b_M_prizes_22_ok {p : Program} {l : Launch} {e : Env} {s : State} {m : MethodId} {args : Array Value} {below : List Frame} {meth : Method} {c : Code} {D : va_G} {cy : Nat → ClassId} {ad : Nat → Nat} (X : CX p s m args meth c cX12_prizes RX12 3 (some .int) D shM cy ad (aw shM ad)) {F : Nat} {q : Int × St} {sg : St} (hf : b_M_prizes_22  F  sg  = some q) : GG p l e rm_M_prizes s m args below meth c (QI D shM cy ad below args s q) D shM cy ad (aw shM ad) 3 22 [(0, .ref (ad 0))] [] sg := by
  refine r_aload_n X 0 dX12_prizes_22 rfl rfl ?_
  refine r_iconst X dX12_prizes_23 ?_
  obtain ⟨q1, hq1, hf⟩ := bd_some hf
  refine r_callVI X (As := [mI 2]) (st := []) (as := fun ad => [.ref (ad 0), mI 2]) (c_M_refuse hq1) rfl yw_X12_refuse yv_X12_refuse ml_RX12_201 o_M_0 rfl rfl ⟨rfl, rfl⟩ ⟨Nat.le_of_ble_eq_true rfl, Nat.le_of_ble_eq_true rfl⟩ rfl rfl (Nat.le_of_ble_eq_true rfl) dX12_prizes_24 ?_
  exact r_ireturn X hf dX12_prizes_27
set_option maxRecDepth 100000 in
set_option maxHeartbeats 4000000 in
theorem c_M_prizes {l : Launch} {F : Nat} {sg : St} {x1 : Int} {q : Int × St} (hf : f_M_prizes F  sg x1 = some q) : MI l shM yX12_prizes cX12_prizes 3 (some .int) rm_M_prizes (fun ad => [.ref (ad 0), mI x1]) sg q.2 q.1 := by
  refine mk_i (by decide) (fun _ => Nat.le_of_ble_eq_true rfl) (fun p e s m args below meth c D cy ad X => ?_)
  have X : CX p s m args meth c cX12_prizes RX12 3 (some .int) D shM cy ad (aw shM ad) := X
  refine r_perm (lv2 := [(0, .ref (ad 0)), (1, mI x1)]) [0, 1] rfl ?_
  refine r_aload_n X 0 dX12_prizes_0 rfl rfl ?_
  refine r_iconst X dX12_prizes_1 ?_
  refine r_putI X fp_12_195 k_M_0_1 rfl rfl dX12_prizes_2 ?_
  refine r_aload_n X 0 dX12_prizes_5 rfl rfl ?_
  refine r_iconst X dX12_prizes_6 ?_
  refine r_putI X fp_12_198 k_M_0_0 rfl rfl dX12_prizes_7 ?_
  refine r_iload_n X 1 dX12_prizes_10 rfl rfl ?_
  refine r_if_lt (tgt := 22) X dX12_prizes_11 (by decide) (fun hc3 => ?_) (fun hc3 => ?_)
  · have hf := ite_yes hc3 hf
    refine r_perm (lv2 := [(0, .ref (ad 0))]) [0] rfl ?_
    exact b_M_prizes_22_ok X  hf
  · have hf := ite_no hc3 hf
    refine r_iload_n X 1 dX12_prizes_14 rfl rfl ?_
    refine r_aload_n X 0 dX12_prizes_15 rfl rfl ?_
    refine r_getI X fl_12_378 k_M_0_45 dX12_prizes_16 ?_
    refine r_icmp_le (tgt := 28) X dX12_prizes_19 (by decide) (fun hc4 => ?_) (fun hc4 => ?_)
    · have hf := ite_yes hc4 hf
      refine r_aload_n X 0 dX12_prizes_28 rfl rfl ?_
      refine r_iload_n X 1 dX12_prizes_29 rfl rfl ?_
      refine r_putI X fp_12_314 k_M_0_46 rfl rfl dX12_prizes_30 ?_
      refine r_aload_n X 0 dX12_prizes_33 rfl rfl ?_
      refine r_iconst X dX12_prizes_34 ?_
      refine r_putI X fp_12_378 k_M_0_45 rfl rfl dX12_prizes_35 ?_
      refine r_aload_n X 0 dX12_prizes_38 rfl rfl ?_
      refine r_iconst X dX12_prizes_39 ?_
      refine r_putI X fp_12_317 k_M_0_83 rfl rfl dX12_prizes_40 ?_
      refine r_aload_n X 0 dX12_prizes_43 rfl rfl ?_
      refine r_iconst X dX12_prizes_44 ?_
      refine r_putI X fp_12_345 k_M_0_49 rfl rfl dX12_prizes_45 ?_
      refine r_aload_n X 0 dX12_prizes_48 rfl rfl ?_
      refine r_iconst X dX12_prizes_49 ?_
      refine r_putI X fp_12_369 k_M_0_52 rfl rfl dX12_prizes_50 ?_
      refine r_aload_n X 0 dX12_prizes_53 rfl rfl ?_
      obtain ⟨q10, hq10, hf⟩ := bd_some hf
      refine r_callVV X (As := []) (st := []) (as := fun ad => [.ref (ad 0)]) (c_M_next hq10) rfl yw_X12_next yv_X12_next ml_RX12_358 o_M_0 rfl rfl ⟨rfl, rfl⟩ ⟨Nat.le_of_ble_eq_true rfl, Nat.le_of_ble_eq_true rfl⟩ rfl rfl (Nat.le_of_ble_eq_true rfl) dX12_prizes_54 ?_
      refine r_perm (lv2 := [(0, .ref (ad 0))]) [0] rfl ?_
      refine l_M_prizes_57_ok X ?_ F _  hf
      · intro s11  hf
        exact b_M_prizes_92_ok X  hf
    · have hf := ite_no hc4 hf
      refine r_perm (lv2 := [(0, .ref (ad 0))]) [0] rfl ?_
      exact b_M_prizes_22_ok X  hf
set_option maxRecDepth 100000 in
set_option maxHeartbeats 4000000 in
theorem c_M_fault {l : Launch} {sg : St} {x1 : Int} {q : Int × St} (hf : f_M_fault  sg x1 = some q) : MI l shM yX12_fault cX12_fault 2 (some .int) rm_M_fault (fun ad => [.ref (ad 0), mI x1]) sg q.2 q.1 := by
  refine mk_i (by decide) (fun _ => Nat.le_of_ble_eq_true rfl) (fun p e s m args below meth c D cy ad X => ?_)
  have X : CX p s m args meth c cX12_fault RX12 2 (some .int) D shM cy ad (aw shM ad) := X
  refine r_perm (lv2 := [(0, .ref (ad 0)), (1, mI x1)]) [0, 1] rfl ?_
  refine r_aload_n X 0 dX12_fault_0 rfl rfl ?_
  refine r_iconst X dX12_fault_1 ?_
  refine r_putI X fp_12_195 k_M_0_1 rfl rfl dX12_fault_2 ?_
  refine r_iload_n X 1 dX12_fault_5 rfl rfl ?_
  refine r_if_ne (tgt := 16) X dX12_fault_6 (by decide) (fun hc2 => ?_) (fun hc2 => ?_)
  · have hf := ite_yes hc2 hf
    refine r_aload_n X 0 dX12_fault_9 rfl rfl ?_
    refine r_getI X fl_12_117 k_M_0_47 dX12_fault_10 ?_
    refine r_goto (tgt := 29) X dX12_fault_13 (by decide) ?_
    exact r_ireturn X hf dX12_fault_29
  · have hf := ite_no hc2 hf
    refine r_iload_n X 1 dX12_fault_16 rfl rfl ?_
    refine r_iconst X dX12_fault_17 ?_
    refine r_icmp_ne (tgt := 28) X dX12_fault_18 (by decide) (fun hc3 => ?_) (fun hc3 => ?_)
    · have hf := ite_yes hc3 hf
      refine r_aload_n X 0 dX12_fault_21 rfl rfl ?_
      refine r_getI X fl_12_120 k_M_0_48 dX12_fault_22 ?_
      refine r_goto (tgt := 29) X dX12_fault_25 (by decide) ?_
      exact r_ireturn X hf dX12_fault_29
    · have hf := ite_no hc3 hf
      refine r_iconst X dX12_fault_28 ?_
      exact r_ireturn X hf dX12_fault_29
set_option maxRecDepth 100000 in
set_option maxHeartbeats 4000000 in
theorem b_M_isAbove_17_ok {p : Program} {l : Launch} {e : Env} {s : State} {m : MethodId} {args : Array Value} {below : List Frame} {meth : Method} {c : Code} {D : va_G} {cy : Nat → ClassId} {ad : Nat → Nat} (X : CX p s m args meth c cX12_isAbove RX12 21 (some .boolean) D shM cy ad (aw shM ad)) {F : Nat} {kc : St → Int → Int → Int → Int → Int → Option (Int × St)} {k98 : St → Int → Int → Int → Int → Int → Option (Int × St)} {q : Int × St} (hkc : ∀ sg x8 x10 x12 x14 x16, kc sg x8 x10 x12 x14 x16 = some q → GG p l e rm_M_isAbove s m args below meth c (QI D shM cy ad below args s q) D shM cy ad (aw shM ad) 21 17 [(8, mL x8), (10, mL x10), (12, mL x12), (14, mL x14), (16, mI x16)] [] sg) (hk98 : ∀ sg x8 x10 x12 x14 x16, k98 sg x8 x10 x12 x14 x16 = some q → GG p l e rm_M_isAbove s m args below meth c (QI D shM cy ad below args s q) D shM cy ad (aw shM ad) 21 98 [(8, mL x8), (10, mL x10), (12, mL x12), (14, mL x14), (16, mI x16)] [] sg) {sg : St} {x8 x10 x12 x14 x16 : Int} (hf : b_M_isAbove_17  F kc k98 sg x8 x10 x12 x14 x16 = some q) : GG p l e rm_M_isAbove s m args below meth c (QI D shM cy ad below args s q) D shM cy ad (aw shM ad) 21 17 [(8, mL x8), (10, mL x10), (12, mL x12), (14, mL x14), (16, mI x16)] [] sg := by
  refine r_lload X 1 dX12_isAbove_17 rfl ?_
  refine r_lconst (v := 0) X dX12_isAbove_19 (by decide) ?_
  refine r_lc_eq (tgt := 98) X dX12_isAbove_20 dX12_isAbove_21 (by decide) (fun hc1 => ?_) (fun hc1 => ?_)
  · have hf := ite_yes hc1 hf
    exact hk98 _ _ _ _ _ _ hf
  · have hf := ite_no hc1 hf
    refine r_lload X 3 dX12_isAbove_24 rfl ?_
    refine r_lconst (v := 0) X dX12_isAbove_26 (by decide) ?_
    refine r_lc_eq (tgt := 98) X dX12_isAbove_27 dX12_isAbove_28 (by decide) (fun hc2 => ?_) (fun hc2 => ?_)
    · have hf := ite_yes hc2 hf
      exact hk98 _ _ _ _ _ _ hf
    · have hf := ite_no hc2 hf
      refine r_lload X 0 dX12_isAbove_31 rfl ?_
      refine r_lload X 1 dX12_isAbove_33 rfl ?_
      obtain ⟨q3, hq3, hf⟩ := bd_some hf
      refine r_callSL X (As := [mL x8, mL x10]) (st := []) (as := fun ad => [mL x8, mL x10]) (c_MJ_floorDiv hq3) rfl yw_J9_floorDiv_f86c9 ys_J9_floorDiv_f86c9 ml_RX12_390 ⟨rfl, rfl⟩ ⟨Nat.le_of_ble_eq_true rfl, Nat.le_of_ble_eq_true rfl⟩ rfl rfl (Nat.le_of_ble_eq_true rfl) dX12_isAbove_35 ?_
      refine r_lload X 2 dX12_isAbove_38 rfl ?_
      refine r_lload X 3 dX12_isAbove_40 rfl ?_
      obtain ⟨q4, hq4, hf⟩ := bd_some hf
      refine r_callSL X (As := [mL x12, mL x14]) (st := [mL q3.1]) (as := fun ad => [mL x12, mL x14]) (c_MJ_floorDiv hq4) rfl yw_J9_floorDiv_f86c9 ys_J9_floorDiv_f86c9 ml_RX12_390 ⟨rfl, rfl⟩ ⟨Nat.le_of_ble_eq_true rfl, Nat.le_of_ble_eq_true rfl⟩ rfl rfl (Nat.le_of_ble_eq_true rfl) dX12_isAbove_42 ?_
      refine r_lc_ne (tgt := 98) X dX12_isAbove_45 dX12_isAbove_46 (by decide) (fun hc5 => ?_) (fun hc5 => ?_)
      · have hf := ite_yes hc5 hf
        refine r_lload X 0 dX12_isAbove_49 rfl ?_
        refine r_lload X 1 dX12_isAbove_51 rfl ?_
        obtain ⟨q6, hq6, hf⟩ := bd_some hf
        refine r_callSL X (As := [mL x8, mL x10]) (st := []) (as := fun ad => [mL x8, mL x10]) (c_MJ_floorMod hq6) rfl yw_J9_floorMod_f86c9 ys_J9_floorMod_f86c9 ml_RX12_393 ⟨rfl, rfl⟩ ⟨Nat.le_of_ble_eq_true rfl, Nat.le_of_ble_eq_true rfl⟩ rfl rfl (Nat.le_of_ble_eq_true rfl) dX12_isAbove_53 ?_
        refine r_lstore (lv2 := [(17, mL q6.1), (8, mL x8), (10, mL x10), (12, mL x12), (14, mL x14), (16, mI x16)]) X dX12_isAbove_56 (by decide) rfl ?_
        refine r_lload X 3 dX12_isAbove_58 rfl ?_
        refine r_lload X 4 dX12_isAbove_60 rfl ?_
        obtain ⟨q7, hq7, hf⟩ := bd_some hf
        refine r_callSL X (As := [mL x12, mL x14]) (st := []) (as := fun ad => [mL x12, mL x14]) (c_MJ_floorMod hq7) rfl yw_J9_floorMod_f86c9 ys_J9_floorMod_f86c9 ml_RX12_393 ⟨rfl, rfl⟩ ⟨Nat.le_of_ble_eq_true rfl, Nat.le_of_ble_eq_true rfl⟩ rfl rfl (Nat.le_of_ble_eq_true rfl) dX12_isAbove_62 ?_
        refine r_lstore (lv2 := [(19, mL q7.1), (17, mL q6.1), (8, mL x8), (10, mL x10), (12, mL x12), (14, mL x14), (16, mI x16)]) X dX12_isAbove_65 (by decide) rfl ?_
        refine r_lload X 3 dX12_isAbove_67 rfl ?_
        refine r_lstore (lv2 := [(8, mL x10), (19, mL q7.1), (17, mL q6.1), (10, mL x10), (12, mL x12), (14, mL x14), (16, mI x16)]) X dX12_isAbove_69 (by decide) rfl ?_
        refine r_lload X 2 dX12_isAbove_71 rfl ?_
        refine r_lstore (lv2 := [(10, mL q6.1), (8, mL x10), (19, mL q7.1), (17, mL q6.1), (12, mL x12), (14, mL x14), (16, mI x16)]) X dX12_isAbove_73 (by decide) rfl ?_
        refine r_lload X 5 dX12_isAbove_75 rfl ?_
        refine r_lstore (lv2 := [(12, mL x14), (10, mL q6.1), (8, mL x10), (19, mL q7.1), (17, mL q6.1), (14, mL x14), (16, mI x16)]) X dX12_isAbove_77 (by decide) rfl ?_
        refine r_lload X 3 dX12_isAbove_79 rfl ?_
        refine r_lstore (lv2 := [(14, mL q7.1), (12, mL x14), (10, mL q6.1), (8, mL x10), (19, mL q7.1), (17, mL q6.1), (16, mI x16)]) X dX12_isAbove_81 (by decide) rfl ?_
        refine r_iload X 6 dX12_isAbove_83 rfl ?_
        refine r_if_ne (tgt := 92) X dX12_isAbove_85 (by decide) (fun hc8 => ?_) (fun hc8 => ?_)
        · have hf := ite_yes hc8 hf
          refine r_iconst X dX12_isAbove_88 ?_
          refine r_goto (tgt := 93) X dX12_isAbove_89 (by decide) ?_
          refine r_istore (lv2 := [(16, mI 1), (14, mL q7.1), (12, mL x14), (10, mL q6.1), (8, mL x10), (19, mL q7.1), (17, mL q6.1)]) X dX12_isAbove_93 (by decide) rfl ?_
          refine r_goto (tgt := 17) X dX12_isAbove_95 (by decide) ?_
          refine r_perm (lv2 := [(8, mL x10), (10, mL q6.1), (12, mL x14), (14, mL q7.1), (16, mI 1)]) [4, 3, 2, 1, 0] rfl ?_
          exact hkc _ _ _ _ _ _ hf
        · have hf := ite_no hc8 hf
          refine r_iconst X dX12_isAbove_92 ?_
          refine r_istore (lv2 := [(16, mI 0), (14, mL q7.1), (12, mL x14), (10, mL q6.1), (8, mL x10), (19, mL q7.1), (17, mL q6.1)]) X dX12_isAbove_93 (by decide) rfl ?_
          refine r_goto (tgt := 17) X dX12_isAbove_95 (by decide) ?_
          refine r_perm (lv2 := [(8, mL x10), (10, mL q6.1), (12, mL x14), (14, mL q7.1), (16, mI 0)]) [4, 3, 2, 1, 0] rfl ?_
          exact hkc _ _ _ _ _ _ hf
      · have hf := ite_no hc5 hf
        exact hk98 _ _ _ _ _ _ hf
set_option maxRecDepth 100000 in
set_option maxHeartbeats 4000000 in
theorem l_M_isAbove_17_ok {p : Program} {l : Launch} {e : Env} {s : State} {m : MethodId} {args : Array Value} {below : List Frame} {meth : Method} {c : Code} {D : va_G} {cy : Nat → ClassId} {ad : Nat → Nat} (X : CX p s m args meth c cX12_isAbove RX12 21 (some .boolean) D shM cy ad (aw shM ad)) {F : Nat} {k98 : St → Int → Int → Int → Int → Int → Option (Int × St)} {q : Int × St} (hk98 : ∀ sg x8 x10 x12 x14 x16, k98 sg x8 x10 x12 x14 x16 = some q → GG p l e rm_M_isAbove s m args below meth c (QI D shM cy ad below args s q) D shM cy ad (aw shM ad) 21 98 [(8, mL x8), (10, mL x10), (12, mL x12), (14, mL x14), (16, mI x16)] [] sg) : ∀ (n : Nat) (sg : St) (x8 x10 x12 x14 x16 : Int), l_M_isAbove_17  F k98 n sg x8 x10 x12 x14 x16 = some q → GG p l e rm_M_isAbove s m args below meth c (QI D shM cy ad below args s q) D shM cy ad (aw shM ad) 21 17 [(8, mL x8), (10, mL x10), (12, mL x12), (14, mL x14), (16, mI x16)] [] sg := by
  intro n
  induction n with
  | zero => intro sg x8 x10 x12 x14 x16 h; cases h
  | succ n ih => exact fun sg x8 x10 x12 x14 x16 h => b_M_isAbove_17_ok X ih hk98 h
set_option maxRecDepth 100000 in
set_option maxHeartbeats 4000000 in
theorem b_M_isAbove_151_ok {p : Program} {l : Launch} {e : Env} {s : State} {m : MethodId} {args : Array Value} {below : List Frame} {meth : Method} {c : Code} {D : va_G} {cy : Nat → ClassId} {ad : Nat → Nat} (X : CX p s m args meth c cX12_isAbove RX12 21 (some .boolean) D shM cy ad (aw shM ad)) {F : Nat} {q : Int × St} {sg : St} {x16 z0 : Int} (hf : b_M_isAbove_151  F  sg x16 z0 = some q) : GG p l e rm_M_isAbove s m args below meth c (QI D shM cy ad below args s q) D shM cy ad (aw shM ad) 21 151 [(16, mI x16)] [mI z0] sg := by
  refine r_istore (lv2 := [(17, mI z0), (16, mI x16)]) X dX12_isAbove_151 (by decide) rfl ?_
  refine r_iload X 1 dX12_isAbove_153 rfl ?_
  refine r_iload X 0 dX12_isAbove_155 rfl ?_
  refine r_icmp_eq (tgt := 164) X dX12_isAbove_157 (by decide) (fun hc1 => ?_) (fun hc1 => ?_)
  · have hf := ite_yes hc1 hf
    refine r_iconst X dX12_isAbove_164 ?_
    exact r_zreturn X hf rfl dX12_isAbove_165
  · have hf := ite_no hc1 hf
    refine r_iconst X dX12_isAbove_160 ?_
    refine r_goto (tgt := 165) X dX12_isAbove_161 (by decide) ?_
    exact r_zreturn X hf rfl dX12_isAbove_165
set_option maxRecDepth 100000 in
set_option maxHeartbeats 4000000 in
theorem b_M_isAbove_114_ok {p : Program} {l : Launch} {e : Env} {s : State} {m : MethodId} {args : Array Value} {below : List Frame} {meth : Method} {c : Code} {D : va_G} {cy : Nat → ClassId} {ad : Nat → Nat} (X : CX p s m args meth c cX12_isAbove RX12 21 (some .boolean) D shM cy ad (aw shM ad)) {F : Nat} {q : Int × St} {sg : St} {x8 x10 x12 x14 x16 : Int} (hf : b_M_isAbove_114  F  sg x8 x10 x12 x14 x16 = some q) : GG p l e rm_M_isAbove s m args below meth c (QI D shM cy ad below args s q) D shM cy ad (aw shM ad) 21 114 [(8, mL x8), (10, mL x10), (12, mL x12), (14, mL x14), (16, mI x16)] [] sg := by
  refine r_lload X 3 dX12_isAbove_114 rfl ?_
  refine r_lconst (v := 0) X dX12_isAbove_116 (by decide) ?_
  refine r_lc_eq (tgt := 150) X dX12_isAbove_117 dX12_isAbove_118 (by decide) (fun hc1 => ?_) (fun hc1 => ?_)
  · have hf := ite_yes hc1 hf
    refine r_iconst X dX12_isAbove_150 ?_
    refine r_perm (lv2 := [(16, mI x16)]) [4] rfl ?_
    exact b_M_isAbove_151_ok X  hf
  · have hf := ite_no hc1 hf
    refine r_lload X 1 dX12_isAbove_121 rfl ?_
    refine r_lconst (v := 0) X dX12_isAbove_123 (by decide) ?_
    refine r_lc_eq (tgt := 146) X dX12_isAbove_124 dX12_isAbove_125 (by decide) (fun hc2 => ?_) (fun hc2 => ?_)
    · have hf := ite_yes hc2 hf
      refine r_iconst X dX12_isAbove_146 ?_
      refine r_goto (tgt := 151) X dX12_isAbove_147 (by decide) ?_
      refine r_perm (lv2 := [(16, mI x16)]) [4] rfl ?_
      exact b_M_isAbove_151_ok X  hf
    · have hf := ite_no hc2 hf
      refine r_lload X 0 dX12_isAbove_128 rfl ?_
      refine r_lload X 1 dX12_isAbove_130 rfl ?_
      obtain ⟨q3, hq3, hf⟩ := bd_some hf
      refine r_callSL X (As := [mL x8, mL x10]) (st := []) (as := fun ad => [mL x8, mL x10]) (c_MJ_floorDiv hq3) rfl yw_J9_floorDiv_f86c9 ys_J9_floorDiv_f86c9 ml_RX12_390 ⟨rfl, rfl⟩ ⟨Nat.le_of_ble_eq_true rfl, Nat.le_of_ble_eq_true rfl⟩ rfl rfl (Nat.le_of_ble_eq_true rfl) dX12_isAbove_132 ?_
      refine r_lload X 2 dX12_isAbove_135 rfl ?_
      refine r_lload X 3 dX12_isAbove_137 rfl ?_
      obtain ⟨q4, hq4, hf⟩ := bd_some hf
      refine r_callSL X (As := [mL x12, mL x14]) (st := [mL q3.1]) (as := fun ad => [mL x12, mL x14]) (c_MJ_floorDiv hq4) rfl yw_J9_floorDiv_f86c9 ys_J9_floorDiv_f86c9 ml_RX12_390 ⟨rfl, rfl⟩ ⟨Nat.le_of_ble_eq_true rfl, Nat.le_of_ble_eq_true rfl⟩ rfl rfl (Nat.le_of_ble_eq_true rfl) dX12_isAbove_139 ?_
      refine r_lc_le (tgt := 150) X dX12_isAbove_142 dX12_isAbove_143 (by decide) (fun hc5 => ?_) (fun hc5 => ?_)
      · have hf := ite_yes hc5 hf
        refine r_iconst X dX12_isAbove_150 ?_
        refine r_perm (lv2 := [(16, mI x16)]) [4] rfl ?_
        exact b_M_isAbove_151_ok X  hf
      · have hf := ite_no hc5 hf
        refine r_iconst X dX12_isAbove_146 ?_
        refine r_goto (tgt := 151) X dX12_isAbove_147 (by decide) ?_
        refine r_perm (lv2 := [(16, mI x16)]) [4] rfl ?_
        exact b_M_isAbove_151_ok X  hf
set_option maxRecDepth 100000 in
set_option maxHeartbeats 4000000 in
theorem b_M_isAbove_98_ok {p : Program} {l : Launch} {e : Env} {s : State} {m : MethodId} {args : Array Value} {below : List Frame} {meth : Method} {c : Code} {D : va_G} {cy : Nat → ClassId} {ad : Nat → Nat} (X : CX p s m args meth c cX12_isAbove RX12 21 (some .boolean) D shM cy ad (aw shM ad)) {F : Nat} {q : Int × St} {sg : St} {x8 x10 x12 x14 x16 : Int} (hf : b_M_isAbove_98  F  sg x8 x10 x12 x14 x16 = some q) : GG p l e rm_M_isAbove s m args below meth c (QI D shM cy ad below args s q) D shM cy ad (aw shM ad) 21 98 [(8, mL x8), (10, mL x10), (12, mL x12), (14, mL x14), (16, mI x16)] [] sg := by
  refine r_lload X 1 dX12_isAbove_98 rfl ?_
  refine r_lconst (v := 0) X dX12_isAbove_100 (by decide) ?_
  refine r_lc_ne (tgt := 114) X dX12_isAbove_101 dX12_isAbove_102 (by decide) (fun hc1 => ?_) (fun hc1 => ?_)
  · have hf := ite_yes hc1 hf
    refine r_lload X 3 dX12_isAbove_105 rfl ?_
    refine r_lconst (v := 0) X dX12_isAbove_107 (by decide) ?_
    refine r_lc_ne (tgt := 114) X dX12_isAbove_108 dX12_isAbove_109 (by decide) (fun hc2 => ?_) (fun hc2 => ?_)
    · have hf := ite_yes hc2 hf
      refine r_iconst X dX12_isAbove_112 ?_
      exact r_zreturn X hf rfl dX12_isAbove_113
    · have hf := ite_no hc2 hf
      exact b_M_isAbove_114_ok X  hf
  · have hf := ite_no hc1 hf
    exact b_M_isAbove_114_ok X  hf
set_option maxRecDepth 100000 in
set_option maxHeartbeats 4000000 in
theorem c_M_isAbove {l : Launch} {F : Nat} {sg : St} {x0 x2 x4 x6 : Int} {q : Int × St} (hf : f_M_isAbove F  sg x0 x2 x4 x6 = some q) : MI l shM yX12_isAbove cX12_isAbove 21 (some .boolean) rm_M_isAbove (fun ad => [mL x0, mL x2, mL x4, mL x6]) sg q.2 q.1 := by
  refine mk_i (by decide) (fun _ => Nat.le_of_ble_eq_true rfl) (fun p e s m args below meth c D cy ad X => ?_)
  have X : CX p s m args meth c cX12_isAbove RX12 21 (some .boolean) D shM cy ad (aw shM ad) := X
  refine r_perm (lv2 := [(0, mL x0), (2, mL x2), (4, mL x4), (6, mL x6)]) [0, 1, 2, 3] rfl ?_
  refine r_lload_n X 0 dX12_isAbove_0 rfl rfl ?_
  refine r_lstore (lv2 := [(8, mL x0), (0, mL x0), (2, mL x2), (4, mL x4), (6, mL x6)]) X dX12_isAbove_1 (by decide) rfl ?_
  refine r_lload_n X 2 dX12_isAbove_3 rfl rfl ?_
  refine r_lstore (lv2 := [(10, mL x2), (8, mL x0), (0, mL x0), (2, mL x2), (4, mL x4), (6, mL x6)]) X dX12_isAbove_4 (by decide) rfl ?_
  refine r_lload X 4 dX12_isAbove_6 rfl ?_
  refine r_lstore (lv2 := [(12, mL x4), (10, mL x2), (8, mL x0), (0, mL x0), (2, mL x2), (4, mL x4), (6, mL x6)]) X dX12_isAbove_8 (by decide) rfl ?_
  refine r_lload X 6 dX12_isAbove_10 rfl ?_
  refine r_lstore (lv2 := [(14, mL x6), (12, mL x4), (10, mL x2), (8, mL x0), (0, mL x0), (2, mL x2), (4, mL x4), (6, mL x6)]) X dX12_isAbove_12 (by decide) rfl ?_
  refine r_iconst X dX12_isAbove_14 ?_
  refine r_istore (lv2 := [(16, mI 0), (14, mL x6), (12, mL x4), (10, mL x2), (8, mL x0), (0, mL x0), (2, mL x2), (4, mL x4), (6, mL x6)]) X dX12_isAbove_15 (by decide) rfl ?_
  refine r_perm (lv2 := [(8, mL x0), (10, mL x2), (12, mL x4), (14, mL x6), (16, mI 0)]) [4, 3, 2, 1, 0] rfl ?_
  refine l_M_isAbove_17_ok X ?_ F _ _ _ _ _ _ hf
  · intro s1 x8_2 x10_3 x12_4 x14_5 x16_6 hf
    exact b_M_isAbove_98_ok X  hf
set_option maxRecDepth 100000 in
set_option maxHeartbeats 4000000 in
theorem b_M_wants_91_ok {p : Program} {l : Launch} {e : Env} {s : State} {m : MethodId} {args : Array Value} {below : List Frame} {meth : Method} {c : Code} {D : va_G} {cy : Nat → ClassId} {ad : Nat → Nat} (X : CX p s m args meth c cX12_wants RX12 3 (some .boolean) D shM cy ad (aw shM ad)) {F : Nat} {q : Int × St} {sg : St} {x1 x2 : Int} (hf : b_M_wants_91  F  sg x1 x2 = some q) : GG p l e rm_M_wants s m args below meth c (QI D shM cy ad below args s q) D shM cy ad (aw shM ad) 3 91 [(0, .ref (ad 0)), (1, mI x1), (2, mI x2)] [] sg := by
  refine r_aload_n X 0 dX12_wants_91 rfl rfl ?_
  refine r_getR X fl_12_129 k_M_0_55 dX12_wants_92 ?_
  refine r_iload_n X 1 dX12_wants_95 rfl rfl ?_
  obtain ⟨hg1, hf⟩ := gd_some hf
  refine r_iald X a_M_35 hg1 dX12_wants_96 ?_
  refine r_if_lt (tgt := 115) X dX12_wants_97 (by decide) (fun hc2 => ?_) (fun hc2 => ?_)
  · have hf := ite_yes hc2 hf
    refine r_iconst X dX12_wants_115 ?_
    refine r_goto (tgt := 120) X dX12_wants_116 (by decide) ?_
    exact r_zreturn X hf rfl dX12_wants_120
  · have hf := ite_no hc2 hf
    refine r_aload_n X 0 dX12_wants_100 rfl rfl ?_
    refine r_getR X fl_12_129 k_M_0_55 dX12_wants_101 ?_
    refine r_iload_n X 1 dX12_wants_104 rfl rfl ?_
    obtain ⟨hg3, hf⟩ := gd_some hf
    refine r_iald X a_M_35 hg3 dX12_wants_105 ?_
    refine r_aload_n X 0 dX12_wants_106 rfl rfl ?_
    refine r_getR X fl_12_24 k_M_0_9 dX12_wants_107 ?_
    refine r_iload_n X 2 dX12_wants_110 rfl rfl ?_
    obtain ⟨hg4, hf⟩ := gd_some hf
    refine r_iald X a_M_3 hg4 dX12_wants_111 ?_
    refine r_icmp_ne (tgt := 119) X dX12_wants_112 (by decide) (fun hc5 => ?_) (fun hc5 => ?_)
    · have hf := ite_yes hc5 hf
      refine r_iconst X dX12_wants_115 ?_
      refine r_goto (tgt := 120) X dX12_wants_116 (by decide) ?_
      exact r_zreturn X hf rfl dX12_wants_120
    · have hf := ite_no hc5 hf
      refine r_iconst X dX12_wants_119 ?_
      exact r_zreturn X hf rfl dX12_wants_120
set_option maxRecDepth 100000 in
set_option maxHeartbeats 4000000 in
theorem b_M_wants_67_ok {p : Program} {l : Launch} {e : Env} {s : State} {m : MethodId} {args : Array Value} {below : List Frame} {meth : Method} {c : Code} {D : va_G} {cy : Nat → ClassId} {ad : Nat → Nat} (X : CX p s m args meth c cX12_wants RX12 3 (some .boolean) D shM cy ad (aw shM ad)) {F : Nat} {q : Int × St} {sg : St} {x1 x2 : Int} (hf : b_M_wants_67  F  sg x1 x2 = some q) : GG p l e rm_M_wants s m args below meth c (QI D shM cy ad below args s q) D shM cy ad (aw shM ad) 3 67 [(0, .ref (ad 0)), (1, mI x1), (2, mI x2)] [] sg := by
  refine r_aload_n X 0 dX12_wants_67 rfl rfl ?_
  refine r_getR X fl_12_126 k_M_0_54 dX12_wants_68 ?_
  refine r_iload_n X 1 dX12_wants_71 rfl rfl ?_
  obtain ⟨hg1, hf⟩ := gd_some hf
  refine r_iald X a_M_34 hg1 dX12_wants_72 ?_
  refine r_if_lt (tgt := 91) X dX12_wants_73 (by decide) (fun hc2 => ?_) (fun hc2 => ?_)
  · have hf := ite_yes hc2 hf
    exact b_M_wants_91_ok X  hf
  · have hf := ite_no hc2 hf
    refine r_aload_n X 0 dX12_wants_76 rfl rfl ?_
    refine r_getR X fl_12_126 k_M_0_54 dX12_wants_77 ?_
    refine r_iload_n X 1 dX12_wants_80 rfl rfl ?_
    obtain ⟨hg3, hf⟩ := gd_some hf
    refine r_iald X a_M_34 hg3 dX12_wants_81 ?_
    refine r_aload_n X 0 dX12_wants_82 rfl rfl ?_
    refine r_getR X fl_12_21 k_M_0_8 dX12_wants_83 ?_
    refine r_iload_n X 2 dX12_wants_86 rfl rfl ?_
    obtain ⟨hg4, hf⟩ := gd_some hf
    refine r_iald X a_M_2 hg4 dX12_wants_87 ?_
    refine r_icmp_ne (tgt := 119) X dX12_wants_88 (by decide) (fun hc5 => ?_) (fun hc5 => ?_)
    · have hf := ite_yes hc5 hf
      exact b_M_wants_91_ok X  hf
    · have hf := ite_no hc5 hf
      refine r_iconst X dX12_wants_119 ?_
      exact r_zreturn X hf rfl dX12_wants_120
set_option maxRecDepth 100000 in
set_option maxHeartbeats 4000000 in
theorem b_M_wants_43_ok {p : Program} {l : Launch} {e : Env} {s : State} {m : MethodId} {args : Array Value} {below : List Frame} {meth : Method} {c : Code} {D : va_G} {cy : Nat → ClassId} {ad : Nat → Nat} (X : CX p s m args meth c cX12_wants RX12 3 (some .boolean) D shM cy ad (aw shM ad)) {F : Nat} {q : Int × St} {sg : St} {x1 x2 : Int} (hf : b_M_wants_43  F  sg x1 x2 = some q) : GG p l e rm_M_wants s m args below meth c (QI D shM cy ad below args s q) D shM cy ad (aw shM ad) 3 43 [(0, .ref (ad 0)), (1, mI x1), (2, mI x2)] [] sg := by
  refine r_aload_n X 0 dX12_wants_43 rfl rfl ?_
  refine r_getR X fl_12_123 k_M_0_53 dX12_wants_44 ?_
  refine r_iload_n X 1 dX12_wants_47 rfl rfl ?_
  obtain ⟨hg1, hf⟩ := gd_some hf
  refine r_iald X a_M_33 hg1 dX12_wants_48 ?_
  refine r_if_lt (tgt := 67) X dX12_wants_49 (by decide) (fun hc2 => ?_) (fun hc2 => ?_)
  · have hf := ite_yes hc2 hf
    exact b_M_wants_67_ok X  hf
  · have hf := ite_no hc2 hf
    refine r_aload_n X 0 dX12_wants_52 rfl rfl ?_
    refine r_getR X fl_12_123 k_M_0_53 dX12_wants_53 ?_
    refine r_iload_n X 1 dX12_wants_56 rfl rfl ?_
    obtain ⟨hg3, hf⟩ := gd_some hf
    refine r_iald X a_M_33 hg3 dX12_wants_57 ?_
    refine r_aload_n X 0 dX12_wants_58 rfl rfl ?_
    refine r_getR X fl_12_17 k_M_0_7 dX12_wants_59 ?_
    refine r_iload_n X 2 dX12_wants_62 rfl rfl ?_
    obtain ⟨hg4, hf⟩ := gd_some hf
    refine r_iald X a_M_1 hg4 dX12_wants_63 ?_
    refine r_icmp_ne (tgt := 119) X dX12_wants_64 (by decide) (fun hc5 => ?_) (fun hc5 => ?_)
    · have hf := ite_yes hc5 hf
      exact b_M_wants_67_ok X  hf
    · have hf := ite_no hc5 hf
      refine r_iconst X dX12_wants_119 ?_
      exact r_zreturn X hf rfl dX12_wants_120
set_option maxRecDepth 100000 in
set_option maxHeartbeats 4000000 in
theorem c_M_wants {l : Launch} {F : Nat} {sg : St} {x1 x2 : Int} {q : Int × St} (hf : f_M_wants F  sg x1 x2 = some q) : MI l shM yX12_wants cX12_wants 3 (some .boolean) rm_M_wants (fun ad => [.ref (ad 0), mI x1, mI x2]) sg q.2 q.1 := by
  refine mk_i (by decide) (fun _ => Nat.le_of_ble_eq_true rfl) (fun p e s m args below meth c D cy ad X => ?_)
  have X : CX p s m args meth c cX12_wants RX12 3 (some .boolean) D shM cy ad (aw shM ad) := X
  refine r_perm (lv2 := [(0, .ref (ad 0)), (1, mI x1), (2, mI x2)]) [0, 1, 2] rfl ?_
  refine r_aload_n X 0 dX12_wants_0 rfl rfl ?_
  refine r_getR X fl_12_165 k_M_0_67 dX12_wants_1 ?_
  refine r_iload_n X 2 dX12_wants_4 rfl rfl ?_
  obtain ⟨hg1, hf⟩ := gd_some hf
  refine r_zald X a_M_47 hg1 dX12_wants_5 ?_
  refine r_if_eq (tgt := 41) X dX12_wants_6 (by decide) (fun hc2 => ?_) (fun hc2 => ?_)
  · have hf := ite_yes hc2 hf
    refine r_iconst X dX12_wants_41 ?_
    exact r_zreturn X hf rfl dX12_wants_42
  · have hf := ite_no hc2 hf
    refine r_aload_n X 0 dX12_wants_9 rfl rfl ?_
    refine r_iload_n X 2 dX12_wants_10 rfl rfl ?_
    obtain ⟨q3, hq3, hf⟩ := bd_some hf
    refine r_callVI X (As := [mI x2]) (st := []) (as := fun ad => [.ref (ad 0), mI x2]) (c_M_countOf hq3) rfl yw_X12_countOf yv_X12_countOf ml_RX12_267 o_M_0 rfl rfl ⟨rfl, rfl⟩ ⟨Nat.le_of_ble_eq_true rfl, Nat.le_of_ble_eq_true rfl⟩ rfl rfl (Nat.le_of_ble_eq_true rfl) dX12_wants_11 ?_
    refine r_aload_n X 0 dX12_wants_14 rfl rfl ?_
    refine r_getR X fl_12_132 k_M_0_56 dX12_wants_15 ?_
    refine r_iload_n X 1 dX12_wants_18 rfl rfl ?_
    obtain ⟨hg4, hf⟩ := gd_some hf
    refine r_iald X a_M_36 hg4 dX12_wants_19 ?_
    refine r_icmp_lt (tgt := 41) X dX12_wants_20 (by decide) (fun hc5 => ?_) (fun hc5 => ?_)
    · have hf := ite_yes hc5 hf
      refine r_iconst X dX12_wants_41 ?_
      exact r_zreturn X hf rfl dX12_wants_42
    · have hf := ite_no hc5 hf
      refine r_aload_n X 0 dX12_wants_23 rfl rfl ?_
      refine r_getR X fl_12_138 k_M_0_58 dX12_wants_24 ?_
      refine r_iload_n X 1 dX12_wants_27 rfl rfl ?_
      obtain ⟨hg6, hf⟩ := gd_some hf
      refine r_zald X a_M_38 hg6 dX12_wants_28 ?_
      refine r_if_eq (tgt := 43) X dX12_wants_29 (by decide) (fun hc7 => ?_) (fun hc7 => ?_)
      · have hf := ite_yes hc7 hf
        exact b_M_wants_43_ok X  hf
      · have hf := ite_no hc7 hf
        refine r_aload_n X 0 dX12_wants_32 rfl rfl ?_
        refine r_getR X fl_12_168 k_M_0_68 dX12_wants_33 ?_
        refine r_iload_n X 2 dX12_wants_36 rfl rfl ?_
        obtain ⟨hg8, hf⟩ := gd_some hf
        refine r_zald X a_M_48 hg8 dX12_wants_37 ?_
        refine r_if_eq (tgt := 43) X dX12_wants_38 (by decide) (fun hc9 => ?_) (fun hc9 => ?_)
        · have hf := ite_yes hc9 hf
          exact b_M_wants_43_ok X  hf
        · have hf := ite_no hc9 hf
          refine r_iconst X dX12_wants_41 ?_
          exact r_zreturn X hf rfl dX12_wants_42
set_option maxRecDepth 100000 in
set_option maxHeartbeats 4000000 in
theorem b_M_given_259_ok {p : Program} {l : Launch} {e : Env} {s : State} {m : MethodId} {args : Array Value} {below : List Frame} {meth : Method} {c : Code} {D : va_G} {cy : Nat → ClassId} {ad : Nat → Nat} (X : CX p s m args meth c cX12_given RX12 8 (some .int) D shM cy ad (aw shM ad)) {F : Nat} {kc : St → Int → Int → Int → Int → Int → Int → Option (Int × St)} {k327 : St → Int → Int → Int → Int → Int → Option (Int × St)} {q : Int × St} (hkc : ∀ sg x1 x2 x4 x5 x6 x7, kc sg x1 x2 x4 x5 x6 x7 = some q → GG p l e rm_M_given s m args below meth c (QI D shM cy ad below args s q) D shM cy ad (aw shM ad) 8 259 [(0, .ref (ad 0)), (1, mI x1), (2, mI x2), (4, mI x4), (5, mI x5), (6, mI x6), (7, mI x7)] [] sg) (hk327 : ∀ sg x1 x2 x4 x5 x6, k327 sg x1 x2 x4 x5 x6 = some q → GG p l e rm_M_given s m args below meth c (QI D shM cy ad below args s q) D shM cy ad (aw shM ad) 8 327 [(0, .ref (ad 0)), (1, mI x1), (2, mI x2), (4, mI x4), (5, mI x5), (6, mI x6)] [] sg) {sg : St} {x1 x2 x4 x5 x6 x7 : Int} (hf : b_M_given_259  F kc k327 sg x1 x2 x4 x5 x6 x7 = some q) : GG p l e rm_M_given s m args below meth c (QI D shM cy ad below args s q) D shM cy ad (aw shM ad) 8 259 [(0, .ref (ad 0)), (1, mI x1), (2, mI x2), (4, mI x4), (5, mI x5), (6, mI x6), (7, mI x7)] [] sg := by
  refine r_iload X 6 dX12_given_259 rfl ?_
  refine r_aload_n X 0 dX12_given_261 rfl rfl ?_
  refine r_getI X fl_12_205 k_M_0_4 dX12_given_262 ?_
  refine r_icmp_ge (tgt := 327) X dX12_given_265 (by decide) (fun hc1 => ?_) (fun hc1 => ?_)
  · have hf := ite_yes hc1 hf
    refine r_perm (lv2 := [(0, .ref (ad 0)), (1, mI x1), (2, mI x2), (4, mI x4), (5, mI x5), (6, mI x6)]) [0, 1, 2, 3, 4, 5] rfl ?_
    exact hk327 _ _ _ _ _ _ hf
  · have hf := ite_no hc1 hf
    refine r_aload_n X 0 dX12_given_268 rfl rfl ?_
    refine r_getR X fl_12_171 k_M_0_69 dX12_given_269 ?_
    refine r_iload X 6 dX12_given_272 rfl ?_
    obtain ⟨hg2, hf⟩ := gd_some hf
    refine r_zald X a_M_49 hg2 dX12_given_274 ?_
    refine r_if_ne (tgt := 321) X dX12_given_275 (by decide) (fun hc3 => ?_) (fun hc3 => ?_)
    · have hf := ite_yes hc3 hf
      refine r_iload X 5 dX12_given_278 rfl ?_
      refine r_if_lt (tgt := 317) X dX12_given_280 (by decide) (fun hc4 => ?_) (fun hc4 => ?_)
      · have hf := ite_yes hc4 hf
        refine r_iload X 6 dX12_given_317 rfl ?_
        refine r_istore (lv2 := [(6, mI x7), (0, .ref (ad 0)), (1, mI x1), (2, mI x2), (4, mI x4), (5, mI x5), (7, mI x7)]) X dX12_given_319 (by decide) rfl ?_
        refine r_iinc (lv2 := [(7, mI (x7 + 1)), (6, mI x7), (0, .ref (ad 0)), (1, mI x1), (2, mI x2), (4, mI x4), (5, mI x5)]) X 6 dX12_given_321 rfl (by decide) rfl ?_
        refine r_goto (tgt := 259) X dX12_given_324 (by decide) ?_
        refine r_perm (lv2 := [(0, .ref (ad 0)), (1, mI x1), (2, mI x2), (4, mI x4), (5, mI x5), (6, mI x7), (7, mI (x7 + 1))]) [2, 3, 4, 5, 6, 1, 0] rfl ?_
        exact hkc _ _ _ _ _ _ _ hf
      · have hf := ite_no hc4 hf
        refine r_aload_n X 0 dX12_given_283 rfl rfl ?_
        refine r_getR X fl_12_159 k_M_0_65 dX12_given_284 ?_
        refine r_iload X 6 dX12_given_287 rfl ?_
        obtain ⟨hg5, hf⟩ := gd_some hf
        refine r_lald X a_M_45 hg5 dX12_given_289 ?_
        refine r_aload_n X 0 dX12_given_290 rfl rfl ?_
        refine r_getR X fl_12_162 k_M_0_66 dX12_given_291 ?_
        refine r_iload X 6 dX12_given_294 rfl ?_
        obtain ⟨hg6, hf⟩ := gd_some hf
        refine r_lald X a_M_46 hg6 dX12_given_296 ?_
        refine r_aload_n X 0 dX12_given_297 rfl rfl ?_
        refine r_getR X fl_12_159 k_M_0_65 dX12_given_298 ?_
        refine r_iload X 5 dX12_given_301 rfl ?_
        obtain ⟨hg7, hf⟩ := gd_some hf
        refine r_lald X a_M_45 hg7 dX12_given_303 ?_
        refine r_aload_n X 0 dX12_given_304 rfl rfl ?_
        refine r_getR X fl_12_162 k_M_0_66 dX12_given_305 ?_
        refine r_iload X 5 dX12_given_308 rfl ?_
        obtain ⟨hg8, hf⟩ := gd_some hf
        refine r_lald X a_M_46 hg8 dX12_given_310 ?_
        obtain ⟨q9, hq9, hf⟩ := bd_some hf
        refine r_callSI X (As := [mL (sg 45 (ix x7)), mL (sg 46 (ix x7)), mL (sg 45 (ix x6)), mL (sg 46 (ix x6))]) (st := []) (as := fun ad => [mL (sg 45 (ix x7)), mL (sg 46 (ix x7)), mL (sg 45 (ix x6)), mL (sg 46 (ix x6))]) (c_M_isAbove hq9) rfl yw_X12_isAbove ys_X12_isAbove ml_RX12_399 ⟨rfl, rfl⟩ ⟨Nat.le_of_ble_eq_true rfl, Nat.le_of_ble_eq_true rfl⟩ rfl rfl (Nat.le_of_ble_eq_true rfl) dX12_given_311 ?_
        refine r_if_eq (tgt := 321) X dX12_given_314 (by decide) (fun hc10 => ?_) (fun hc10 => ?_)
        · have hf := ite_yes hc10 hf
          refine r_iinc (lv2 := [(7, mI (x7 + 1)), (0, .ref (ad 0)), (1, mI x1), (2, mI x2), (4, mI x4), (5, mI x5), (6, mI x6)]) X 6 dX12_given_321 rfl (by decide) rfl ?_
          refine r_goto (tgt := 259) X dX12_given_324 (by decide) ?_
          refine r_perm (lv2 := [(0, .ref (ad 0)), (1, mI x1), (2, mI x2), (4, mI x4), (5, mI x5), (6, mI x6), (7, mI (x7 + 1))]) [1, 2, 3, 4, 5, 6, 0] rfl ?_
          exact hkc _ _ _ _ _ _ _ hf
        · have hf := ite_no hc10 hf
          refine r_iload X 6 dX12_given_317 rfl ?_
          refine r_istore (lv2 := [(6, mI x7), (0, .ref (ad 0)), (1, mI x1), (2, mI x2), (4, mI x4), (5, mI x5), (7, mI x7)]) X dX12_given_319 (by decide) rfl ?_
          refine r_iinc (lv2 := [(7, mI (x7 + 1)), (6, mI x7), (0, .ref (ad 0)), (1, mI x1), (2, mI x2), (4, mI x4), (5, mI x5)]) X 6 dX12_given_321 rfl (by decide) rfl ?_
          refine r_goto (tgt := 259) X dX12_given_324 (by decide) ?_
          refine r_perm (lv2 := [(0, .ref (ad 0)), (1, mI x1), (2, mI x2), (4, mI x4), (5, mI x5), (6, mI x7), (7, mI (x7 + 1))]) [2, 3, 4, 5, 6, 1, 0] rfl ?_
          exact hkc _ _ _ _ _ _ _ hf
    · have hf := ite_no hc3 hf
      refine r_iinc (lv2 := [(7, mI (x7 + 1)), (0, .ref (ad 0)), (1, mI x1), (2, mI x2), (4, mI x4), (5, mI x5), (6, mI x6)]) X 6 dX12_given_321 rfl (by decide) rfl ?_
      refine r_goto (tgt := 259) X dX12_given_324 (by decide) ?_
      refine r_perm (lv2 := [(0, .ref (ad 0)), (1, mI x1), (2, mI x2), (4, mI x4), (5, mI x5), (6, mI x6), (7, mI (x7 + 1))]) [1, 2, 3, 4, 5, 6, 0] rfl ?_
      exact hkc _ _ _ _ _ _ _ hf
set_option maxRecDepth 100000 in
set_option maxHeartbeats 4000000 in
theorem l_M_given_259_ok {p : Program} {l : Launch} {e : Env} {s : State} {m : MethodId} {args : Array Value} {below : List Frame} {meth : Method} {c : Code} {D : va_G} {cy : Nat → ClassId} {ad : Nat → Nat} (X : CX p s m args meth c cX12_given RX12 8 (some .int) D shM cy ad (aw shM ad)) {F : Nat} {k327 : St → Int → Int → Int → Int → Int → Option (Int × St)} {q : Int × St} (hk327 : ∀ sg x1 x2 x4 x5 x6, k327 sg x1 x2 x4 x5 x6 = some q → GG p l e rm_M_given s m args below meth c (QI D shM cy ad below args s q) D shM cy ad (aw shM ad) 8 327 [(0, .ref (ad 0)), (1, mI x1), (2, mI x2), (4, mI x4), (5, mI x5), (6, mI x6)] [] sg) : ∀ (n : Nat) (sg : St) (x1 x2 x4 x5 x6 x7 : Int), l_M_given_259  F k327 n sg x1 x2 x4 x5 x6 x7 = some q → GG p l e rm_M_given s m args below meth c (QI D shM cy ad below args s q) D shM cy ad (aw shM ad) 8 259 [(0, .ref (ad 0)), (1, mI x1), (2, mI x2), (4, mI x4), (5, mI x5), (6, mI x6), (7, mI x7)] [] sg := by
  intro n
  induction n with
  | zero => intro sg x1 x2 x4 x5 x6 x7 h; cases h
  | succ n ih => exact fun sg x1 x2 x4 x5 x6 x7 h => b_M_given_259_ok X ih hk327 h
set_option maxRecDepth 100000 in
set_option maxHeartbeats 4000000 in
theorem b_M_given_359_ok {p : Program} {l : Launch} {e : Env} {s : State} {m : MethodId} {args : Array Value} {below : List Frame} {meth : Method} {c : Code} {D : va_G} {cy : Nat → ClassId} {ad : Nat → Nat} (X : CX p s m args meth c cX12_given RX12 8 (some .int) D shM cy ad (aw shM ad)) {F : Nat} {kc : St → Int → Int → Int → Int → Option (Int × St)} {k386 : St → Int → Int → Int → Option (Int × St)} {q : Int × St} (hkc : ∀ sg x1 x2 x4 x5, kc sg x1 x2 x4 x5 = some q → GG p l e rm_M_given s m args below meth c (QI D shM cy ad below args s q) D shM cy ad (aw shM ad) 8 241 [(0, .ref (ad 0)), (1, mI x1), (2, mI x2), (4, mI x4), (5, mI x5)] [] sg) (hk386 : ∀ sg x1 x2 x4, k386 sg x1 x2 x4 = some q → GG p l e rm_M_given s m args below meth c (QI D shM cy ad below args s q) D shM cy ad (aw shM ad) 8 386 [(0, .ref (ad 0)), (1, mI x1), (2, mI x2), (4, mI x4)] [] sg) {sg : St} {x1 x2 x4 x5 x6 : Int} (hf : b_M_given_359  F kc k386 sg x1 x2 x4 x5 x6 = some q) : GG p l e rm_M_given s m args below meth c (QI D shM cy ad below args s q) D shM cy ad (aw shM ad) 8 359 [(0, .ref (ad 0)), (1, mI x1), (2, mI x2), (4, mI x4), (5, mI x5), (6, mI x6)] [] sg := by
  refine r_iload X 5 dX12_given_359 rfl ?_
  refine r_if_lt (tgt := 380) X dX12_given_361 (by decide) (fun hc1 => ?_) (fun hc1 => ?_)
  · have hf := ite_yes hc1 hf
    refine r_iinc (lv2 := [(5, mI (x5 + 1)), (0, .ref (ad 0)), (1, mI x1), (2, mI x2), (4, mI x4), (6, mI x6)]) X 4 dX12_given_380 rfl (by decide) rfl ?_
    refine r_goto (tgt := 241) X dX12_given_383 (by decide) ?_
    refine r_perm (lv2 := [(0, .ref (ad 0)), (1, mI x1), (2, mI x2), (4, mI x4), (5, mI (x5 + 1))]) [1, 2, 3, 4, 0] rfl ?_
    exact hkc _ _ _ _ _ hf
  · have hf := ite_no hc1 hf
    refine r_aload_n X 0 dX12_given_364 rfl rfl ?_
    refine r_getR X fl_12_171 k_M_0_69 dX12_given_365 ?_
    refine r_iload X 5 dX12_given_368 rfl ?_
    refine r_iconst X dX12_given_370 ?_
    obtain ⟨hg2, hf⟩ := gd_some hf
    refine r_zast X a_M_49 hg2 dX12_given_371 ?_
    refine r_aload_n X 0 dX12_given_372 rfl rfl ?_
    refine r_getR X fl_12_168 k_M_0_68 dX12_given_373 ?_
    refine r_iload X 5 dX12_given_376 rfl ?_
    refine r_iconst X dX12_given_378 ?_
    obtain ⟨hg4, hf⟩ := gd_some hf
    refine r_zast X a_M_48 hg4 dX12_given_379 ?_
    refine r_iinc (lv2 := [(5, mI (x5 + 1)), (0, .ref (ad 0)), (1, mI x1), (2, mI x2), (4, mI x4), (6, mI x6)]) X 4 dX12_given_380 rfl (by decide) rfl ?_
    refine r_goto (tgt := 241) X dX12_given_383 (by decide) ?_
    refine r_perm (lv2 := [(0, .ref (ad 0)), (1, mI x1), (2, mI x2), (4, mI x4), (5, mI (x5 + 1))]) [1, 2, 3, 4, 0] rfl ?_
    exact hkc _ _ _ _ _ hf
set_option maxRecDepth 100000 in
set_option maxHeartbeats 4000000 in
theorem b_M_given_241_ok {p : Program} {l : Launch} {e : Env} {s : State} {m : MethodId} {args : Array Value} {below : List Frame} {meth : Method} {c : Code} {D : va_G} {cy : Nat → ClassId} {ad : Nat → Nat} (X : CX p s m args meth c cX12_given RX12 8 (some .int) D shM cy ad (aw shM ad)) {F : Nat} {kc : St → Int → Int → Int → Int → Option (Int × St)} {k386 : St → Int → Int → Int → Option (Int × St)} {q : Int × St} (hkc : ∀ sg x1 x2 x4 x5, kc sg x1 x2 x4 x5 = some q → GG p l e rm_M_given s m args below meth c (QI D shM cy ad below args s q) D shM cy ad (aw shM ad) 8 241 [(0, .ref (ad 0)), (1, mI x1), (2, mI x2), (4, mI x4), (5, mI x5)] [] sg) (hk386 : ∀ sg x1 x2 x4, k386 sg x1 x2 x4 = some q → GG p l e rm_M_given s m args below meth c (QI D shM cy ad below args s q) D shM cy ad (aw shM ad) 8 386 [(0, .ref (ad 0)), (1, mI x1), (2, mI x2), (4, mI x4)] [] sg) {sg : St} {x1 x2 x4 x5 : Int} (hf : b_M_given_241  F kc k386 sg x1 x2 x4 x5 = some q) : GG p l e rm_M_given s m args below meth c (QI D shM cy ad below args s q) D shM cy ad (aw shM ad) 8 241 [(0, .ref (ad 0)), (1, mI x1), (2, mI x2), (4, mI x4), (5, mI x5)] [] sg := by
  refine r_iload X 4 dX12_given_241 rfl ?_
  refine r_aload_n X 0 dX12_given_243 rfl rfl ?_
  refine r_getR X fl_12_135 k_M_0_57 dX12_given_244 ?_
  refine r_iload X 3 dX12_given_247 rfl ?_
  obtain ⟨hg1, hf⟩ := gd_some hf
  refine r_iald X a_M_37 hg1 dX12_given_249 ?_
  refine r_icmp_ge (tgt := 386) X dX12_given_250 (by decide) (fun hc2 => ?_) (fun hc2 => ?_)
  · have hf := ite_yes hc2 hf
    refine r_perm (lv2 := [(0, .ref (ad 0)), (1, mI x1), (2, mI x2), (4, mI x4)]) [0, 1, 2, 3] rfl ?_
    exact hk386 _ _ _ _ hf
  · have hf := ite_no hc2 hf
    refine r_iconst X dX12_given_253 ?_
    refine r_istore (lv2 := [(6, mI (-1)), (0, .ref (ad 0)), (1, mI x1), (2, mI x2), (4, mI x4), (5, mI x5)]) X dX12_given_254 (by decide) rfl ?_
    refine r_iconst X dX12_given_256 ?_
    refine r_istore (lv2 := [(7, mI 0), (6, mI (-1)), (0, .ref (ad 0)), (1, mI x1), (2, mI x2), (4, mI x4), (5, mI x5)]) X dX12_given_257 (by decide) rfl ?_
    refine r_perm (lv2 := [(0, .ref (ad 0)), (1, mI x1), (2, mI x2), (4, mI x4), (5, mI x5), (6, mI (-1)), (7, mI 0)]) [2, 3, 4, 5, 6, 1, 0] rfl ?_
    refine l_M_given_259_ok X ?_ F _ _ _ _ _ _ _ hf
    · intro s3 x1_4 x2_5 x4_6 x5_7 x6_8 hf
      refine r_iload X 5 dX12_given_327 rfl ?_
      refine r_if_ge (tgt := 344) X dX12_given_329 (by decide) (fun hc9 => ?_) (fun hc9 => ?_)
      · have hf := ite_yes hc9 hf
        refine r_iload X 3 dX12_given_344 rfl ?_
        refine r_iload_n X 1 dX12_given_346 rfl rfl ?_
        refine r_icmp_ne (tgt := 359) X dX12_given_347 (by decide) (fun hc11 => ?_) (fun hc11 => ?_)
        · have hf := ite_yes hc11 hf
          refine r_iload X 4 dX12_given_350 rfl ?_
          refine r_iload_n X 2 dX12_given_352 rfl rfl ?_
          refine r_icmp_ne (tgt := 359) X dX12_given_353 (by decide) (fun hc12 => ?_) (fun hc12 => ?_)
          · have hf := ite_yes hc12 hf
            refine r_iload X 5 dX12_given_356 rfl ?_
            exact r_ireturn X hf dX12_given_358
          · have hf := ite_no hc12 hf
            exact b_M_given_359_ok X hkc hk386 hf
        · have hf := ite_no hc11 hf
          exact b_M_given_359_ok X hkc hk386 hf
      · have hf := ite_no hc9 hf
        refine r_aload_n X 0 dX12_given_332 rfl rfl ?_
        refine r_getR X fl_12_135 k_M_0_57 dX12_given_333 ?_
        refine r_iload X 3 dX12_given_336 rfl ?_
        obtain ⟨hg10, hf⟩ := gd_some hf
        refine r_iald X a_M_37 hg10 dX12_given_338 ?_
        refine r_istore (lv2 := [(5, mI (s3 37 (ix x4_6))), (0, .ref (ad 0)), (1, mI x1_4), (2, mI x2_5), (4, mI x4_6), (6, mI x6_8)]) X dX12_given_339 (by decide) rfl ?_
        refine r_goto (tgt := 359) X dX12_given_341 (by decide) ?_
        refine r_perm (lv2 := [(0, .ref (ad 0)), (1, mI x1_4), (2, mI x2_5), (4, mI x4_6), (5, mI (s3 37 (ix x4_6))), (6, mI x6_8)]) [1, 2, 3, 4, 0, 5] rfl ?_
        exact b_M_given_359_ok X hkc hk386 hf
set_option maxRecDepth 100000 in
set_option maxHeartbeats 4000000 in
theorem l_M_given_241_ok {p : Program} {l : Launch} {e : Env} {s : State} {m : MethodId} {args : Array Value} {below : List Frame} {meth : Method} {c : Code} {D : va_G} {cy : Nat → ClassId} {ad : Nat → Nat} (X : CX p s m args meth c cX12_given RX12 8 (some .int) D shM cy ad (aw shM ad)) {F : Nat} {k386 : St → Int → Int → Int → Option (Int × St)} {q : Int × St} (hk386 : ∀ sg x1 x2 x4, k386 sg x1 x2 x4 = some q → GG p l e rm_M_given s m args below meth c (QI D shM cy ad below args s q) D shM cy ad (aw shM ad) 8 386 [(0, .ref (ad 0)), (1, mI x1), (2, mI x2), (4, mI x4)] [] sg) : ∀ (n : Nat) (sg : St) (x1 x2 x4 x5 : Int), l_M_given_241  F k386 n sg x1 x2 x4 x5 = some q → GG p l e rm_M_given s m args below meth c (QI D shM cy ad below args s q) D shM cy ad (aw shM ad) 8 241 [(0, .ref (ad 0)), (1, mI x1), (2, mI x2), (4, mI x4), (5, mI x5)] [] sg := by
  intro n
  induction n with
  | zero => intro sg x1 x2 x4 x5 h; cases h
  | succ n ih => exact fun sg x1 x2 x4 x5 h => b_M_given_241_ok X ih hk386 h
set_option maxRecDepth 100000 in
set_option maxHeartbeats 4000000 in
theorem b_M_given_231_ok {p : Program} {l : Launch} {e : Env} {s : State} {m : MethodId} {args : Array Value} {below : List Frame} {meth : Method} {c : Code} {D : va_G} {cy : Nat → ClassId} {ad : Nat → Nat} (X : CX p s m args meth c cX12_given RX12 8 (some .int) D shM cy ad (aw shM ad)) {F : Nat} {kc : St → Int → Int → Int → Int → Option (Int × St)} {k238 : St → Int → Int → Int → Option (Int × St)} {q : Int × St} (hkc : ∀ sg x1 x2 x4 x5, kc sg x1 x2 x4 x5 = some q → GG p l e rm_M_given s m args below meth c (QI D shM cy ad below args s q) D shM cy ad (aw shM ad) 8 200 [(0, .ref (ad 0)), (1, mI x1), (2, mI x2), (4, mI x4), (5, mI x5)] [] sg) (hk238 : ∀ sg x1 x2 x4, k238 sg x1 x2 x4 = some q → GG p l e rm_M_given s m args below meth c (QI D shM cy ad below args s q) D shM cy ad (aw shM ad) 8 238 [(0, .ref (ad 0)), (1, mI x1), (2, mI x2), (4, mI x4)] [] sg) {sg : St} {x1 x2 x4 x5 z0 z1 : Int} (hf : b_M_given_231  F kc k238 sg x1 x2 x4 x5 z0 z1 = some q) : GG p l e rm_M_given s m args below meth c (QI D shM cy ad below args s q) D shM cy ad (aw shM ad) 8 231 [(0, .ref (ad 0)), (1, mI x1), (2, mI x2), (4, mI x4), (5, mI x5)] [mI z0, mI z1, .ref (ad 49)] sg := by
  obtain ⟨hg1, hf⟩ := gd_some hf
  refine r_zast X a_M_49 hg1 dX12_given_231 ?_
  refine r_iinc (lv2 := [(5, mI (x5 + 1)), (0, .ref (ad 0)), (1, mI x1), (2, mI x2), (4, mI x4)]) X 4 dX12_given_232 rfl (by decide) rfl ?_
  refine r_goto (tgt := 200) X dX12_given_235 (by decide) ?_
  refine r_perm (lv2 := [(0, .ref (ad 0)), (1, mI x1), (2, mI x2), (4, mI x4), (5, mI (x5 + 1))]) [1, 2, 3, 4, 0] rfl ?_
  exact hkc _ _ _ _ _ hf
set_option maxRecDepth 100000 in
set_option maxHeartbeats 4000000 in
theorem b_M_given_200_ok {p : Program} {l : Launch} {e : Env} {s : State} {m : MethodId} {args : Array Value} {below : List Frame} {meth : Method} {c : Code} {D : va_G} {cy : Nat → ClassId} {ad : Nat → Nat} (X : CX p s m args meth c cX12_given RX12 8 (some .int) D shM cy ad (aw shM ad)) {F : Nat} {kc : St → Int → Int → Int → Int → Option (Int × St)} {k238 : St → Int → Int → Int → Option (Int × St)} {q : Int × St} (hkc : ∀ sg x1 x2 x4 x5, kc sg x1 x2 x4 x5 = some q → GG p l e rm_M_given s m args below meth c (QI D shM cy ad below args s q) D shM cy ad (aw shM ad) 8 200 [(0, .ref (ad 0)), (1, mI x1), (2, mI x2), (4, mI x4), (5, mI x5)] [] sg) (hk238 : ∀ sg x1 x2 x4, k238 sg x1 x2 x4 = some q → GG p l e rm_M_given s m args below meth c (QI D shM cy ad below args s q) D shM cy ad (aw shM ad) 8 238 [(0, .ref (ad 0)), (1, mI x1), (2, mI x2), (4, mI x4)] [] sg) {sg : St} {x1 x2 x4 x5 : Int} (hf : b_M_given_200  F kc k238 sg x1 x2 x4 x5 = some q) : GG p l e rm_M_given s m args below meth c (QI D shM cy ad below args s q) D shM cy ad (aw shM ad) 8 200 [(0, .ref (ad 0)), (1, mI x1), (2, mI x2), (4, mI x4), (5, mI x5)] [] sg := by
  refine r_iload X 4 dX12_given_200 rfl ?_
  refine r_aload_n X 0 dX12_given_202 rfl rfl ?_
  refine r_getI X fl_12_205 k_M_0_4 dX12_given_203 ?_
  refine r_icmp_ge (tgt := 238) X dX12_given_206 (by decide) (fun hc1 => ?_) (fun hc1 => ?_)
  · have hf := ite_yes hc1 hf
    refine r_perm (lv2 := [(0, .ref (ad 0)), (1, mI x1), (2, mI x2), (4, mI x4)]) [0, 1, 2, 3] rfl ?_
    exact hk238 _ _ _ _ hf
  · have hf := ite_no hc1 hf
    refine r_aload_n X 0 dX12_given_209 rfl rfl ?_
    refine r_getR X fl_12_171 k_M_0_69 dX12_given_210 ?_
    refine r_iload X 4 dX12_given_213 rfl ?_
    refine r_aload_n X 0 dX12_given_215 rfl rfl ?_
    refine r_iload X 3 dX12_given_216 rfl ?_
    refine r_iload X 4 dX12_given_218 rfl ?_
    obtain ⟨q2, hq2, hf⟩ := bd_some hf
    refine r_callVI X (As := [mI x4, mI x5]) (st := [mI x5, .ref (ad 49)]) (as := fun ad => [.ref (ad 0), mI x4, mI x5]) (c_M_wants hq2) rfl yw_X12_wants yv_X12_wants ml_RX12_396 o_M_0 rfl rfl ⟨rfl, rfl⟩ ⟨Nat.le_of_ble_eq_true rfl, Nat.le_of_ble_eq_true rfl⟩ rfl rfl (Nat.le_of_ble_eq_true rfl) dX12_given_220 ?_
    refine r_if_ne (tgt := 230) X dX12_given_223 (by decide) (fun hc3 => ?_) (fun hc3 => ?_)
    · have hf := ite_yes hc3 hf
      refine r_iconst X dX12_given_226 ?_
      refine r_goto (tgt := 231) X dX12_given_227 (by decide) ?_
      exact b_M_given_231_ok X hkc hk238 hf
    · have hf := ite_no hc3 hf
      refine r_iconst X dX12_given_230 ?_
      exact b_M_given_231_ok X hkc hk238 hf
set_option maxRecDepth 100000 in
set_option maxHeartbeats 4000000 in
theorem l_M_given_200_ok {p : Program} {l : Launch} {e : Env} {s : State} {m : MethodId} {args : Array Value} {below : List Frame} {meth : Method} {c : Code} {D : va_G} {cy : Nat → ClassId} {ad : Nat → Nat} (X : CX p s m args meth c cX12_given RX12 8 (some .int) D shM cy ad (aw shM ad)) {F : Nat} {k238 : St → Int → Int → Int → Option (Int × St)} {q : Int × St} (hk238 : ∀ sg x1 x2 x4, k238 sg x1 x2 x4 = some q → GG p l e rm_M_given s m args below meth c (QI D shM cy ad below args s q) D shM cy ad (aw shM ad) 8 238 [(0, .ref (ad 0)), (1, mI x1), (2, mI x2), (4, mI x4)] [] sg) : ∀ (n : Nat) (sg : St) (x1 x2 x4 x5 : Int), l_M_given_200  F k238 n sg x1 x2 x4 x5 = some q → GG p l e rm_M_given s m args below meth c (QI D shM cy ad below args s q) D shM cy ad (aw shM ad) 8 200 [(0, .ref (ad 0)), (1, mI x1), (2, mI x2), (4, mI x4), (5, mI x5)] [] sg := by
  intro n
  induction n with
  | zero => intro sg x1 x2 x4 x5 h; cases h
  | succ n ih => exact fun sg x1 x2 x4 x5 h => b_M_given_200_ok X ih hk238 h
set_option maxRecDepth 100000 in
set_option maxHeartbeats 4000000 in
theorem b_M_given_191_ok {p : Program} {l : Launch} {e : Env} {s : State} {m : MethodId} {args : Array Value} {below : List Frame} {meth : Method} {c : Code} {D : va_G} {cy : Nat → ClassId} {ad : Nat → Nat} (X : CX p s m args meth c cX12_given RX12 8 (some .int) D shM cy ad (aw shM ad)) {F : Nat} {kc : St → Int → Int → Int → Option (Int × St)} {k392 : St → Option (Int × St)} {q : Int × St} (hkc : ∀ sg x1 x2 x4, kc sg x1 x2 x4 = some q → GG p l e rm_M_given s m args below meth c (QI D shM cy ad below args s q) D shM cy ad (aw shM ad) 8 191 [(0, .ref (ad 0)), (1, mI x1), (2, mI x2), (4, mI x4)] [] sg) (hk392 : ∀ sg , k392 sg  = some q → GG p l e rm_M_given s m args below meth c (QI D shM cy ad below args s q) D shM cy ad (aw shM ad) 8 392 [(0, .ref (ad 0))] [] sg) {sg : St} {x1 x2 x4 : Int} (hf : b_M_given_191  F kc k392 sg x1 x2 x4 = some q) : GG p l e rm_M_given s m args below meth c (QI D shM cy ad below args s q) D shM cy ad (aw shM ad) 8 191 [(0, .ref (ad 0)), (1, mI x1), (2, mI x2), (4, mI x4)] [] sg := by
  refine r_iload X 3 dX12_given_191 rfl ?_
  refine r_iload_n X 1 dX12_given_193 rfl rfl ?_
  refine r_icmp_gt (tgt := 392) X dX12_given_194 (by decide) (fun hc1 => ?_) (fun hc1 => ?_)
  · have hf := ite_yes hc1 hf
    refine r_perm (lv2 := [(0, .ref (ad 0))]) [0] rfl ?_
    exact hk392 _ hf
  · have hf := ite_no hc1 hf
    refine r_iconst X dX12_given_197 ?_
    refine r_istore (lv2 := [(5, mI 0), (0, .ref (ad 0)), (1, mI x1), (2, mI x2), (4, mI x4)]) X dX12_given_198 (by decide) rfl ?_
    refine r_perm (lv2 := [(0, .ref (ad 0)), (1, mI x1), (2, mI x2), (4, mI x4), (5, mI 0)]) [1, 2, 3, 4, 0] rfl ?_
    refine l_M_given_200_ok X ?_ F _ _ _ _ _ hf
    · intro s2 x1_3 x2_4 x4_5 hf
      refine r_iconst X dX12_given_238 ?_
      refine r_istore (lv2 := [(5, mI 0), (0, .ref (ad 0)), (1, mI x1_3), (2, mI x2_4), (4, mI x4_5)]) X dX12_given_239 (by decide) rfl ?_
      refine r_perm (lv2 := [(0, .ref (ad 0)), (1, mI x1_3), (2, mI x2_4), (4, mI x4_5), (5, mI 0)]) [1, 2, 3, 4, 0] rfl ?_
      refine l_M_given_241_ok X ?_ F _ _ _ _ _ hf
      · intro s6 x1_7 x2_8 x4_9 hf
        refine r_iinc (lv2 := [(4, mI (x4_9 + 1)), (0, .ref (ad 0)), (1, mI x1_7), (2, mI x2_8)]) X 3 dX12_given_386 rfl (by decide) rfl ?_
        refine r_goto (tgt := 191) X dX12_given_389 (by decide) ?_
        refine r_perm (lv2 := [(0, .ref (ad 0)), (1, mI x1_7), (2, mI x2_8), (4, mI (x4_9 + 1))]) [1, 2, 3, 0] rfl ?_
        exact hkc _ _ _ _ hf
set_option maxRecDepth 100000 in
set_option maxHeartbeats 4000000 in
theorem l_M_given_191_ok {p : Program} {l : Launch} {e : Env} {s : State} {m : MethodId} {args : Array Value} {below : List Frame} {meth : Method} {c : Code} {D : va_G} {cy : Nat → ClassId} {ad : Nat → Nat} (X : CX p s m args meth c cX12_given RX12 8 (some .int) D shM cy ad (aw shM ad)) {F : Nat} {k392 : St → Option (Int × St)} {q : Int × St} (hk392 : ∀ sg , k392 sg  = some q → GG p l e rm_M_given s m args below meth c (QI D shM cy ad below args s q) D shM cy ad (aw shM ad) 8 392 [(0, .ref (ad 0))] [] sg) : ∀ (n : Nat) (sg : St) (x1 x2 x4 : Int), l_M_given_191  F k392 n sg x1 x2 x4 = some q → GG p l e rm_M_given s m args below meth c (QI D shM cy ad below args s q) D shM cy ad (aw shM ad) 8 191 [(0, .ref (ad 0)), (1, mI x1), (2, mI x2), (4, mI x4)] [] sg := by
  intro n
  induction n with
  | zero => intro sg x1 x2 x4 h; cases h
  | succ n ih => exact fun sg x1 x2 x4 h => b_M_given_191_ok X ih hk392 h
set_option maxRecDepth 100000 in
set_option maxHeartbeats 4000000 in
theorem b_M_given_140_ok {p : Program} {l : Launch} {e : Env} {s : State} {m : MethodId} {args : Array Value} {below : List Frame} {meth : Method} {c : Code} {D : va_G} {cy : Nat → ClassId} {ad : Nat → Nat} (X : CX p s m args meth c cX12_given RX12 8 (some .int) D shM cy ad (aw shM ad)) {F : Nat} {kc : St → Int → Int → Int → Option (Int × St)} {k188 : St → Int → Int → Option (Int × St)} {q : Int × St} (hkc : ∀ sg x1 x2 x4, kc sg x1 x2 x4 = some q → GG p l e rm_M_given s m args below meth c (QI D shM cy ad below args s q) D shM cy ad (aw shM ad) 8 103 [(0, .ref (ad 0)), (1, mI x1), (2, mI x2), (4, mI x4)] [] sg) (hk188 : ∀ sg x1 x2, k188 sg x1 x2 = some q → GG p l e rm_M_given s m args below meth c (QI D shM cy ad below args s q) D shM cy ad (aw shM ad) 8 188 [(0, .ref (ad 0)), (1, mI x1), (2, mI x2)] [] sg) {sg : St} {x1 x2 x4 z0 z1 : Int} (hf : b_M_given_140  F kc k188 sg x1 x2 x4 z0 z1 = some q) : GG p l e rm_M_given s m args below meth c (QI D shM cy ad below args s q) D shM cy ad (aw shM ad) 8 140 [(0, .ref (ad 0)), (1, mI x1), (2, mI x2), (4, mI x4)] [mI z0, mI z1, .ref (ad 47)] sg := by
  obtain ⟨hg1, hf⟩ := gd_some hf
  refine r_zast X a_M_47 hg1 dX12_given_140 ?_
  refine r_aload_n X 0 dX12_given_141 rfl rfl ?_
  refine r_getR X fl_12_165 k_M_0_67 dX12_given_142 ?_
  refine r_iload X 3 dX12_given_145 rfl ?_
  obtain ⟨hg3, hf⟩ := gd_some hf
  refine r_zald X a_M_47 hg3 dX12_given_147 ?_
  refine r_if_ne (tgt := 154) X dX12_given_148 (by decide) (fun hc4 => ?_) (fun hc4 => ?_)
  · have hf := ite_yes hc4 hf
    refine r_goto (tgt := 182) X dX12_given_151 (by decide) ?_
    refine r_iinc (lv2 := [(4, mI (x4 + 1)), (0, .ref (ad 0)), (1, mI x1), (2, mI x2)]) X 3 dX12_given_182 rfl (by decide) rfl ?_
    refine r_goto (tgt := 103) X dX12_given_185 (by decide) ?_
    refine r_perm (lv2 := [(0, .ref (ad 0)), (1, mI x1), (2, mI x2), (4, mI (x4 + 1))]) [1, 2, 3, 0] rfl ?_
    exact hkc _ _ _ _ hf
  · have hf := ite_no hc4 hf
    refine r_aload_n X 0 dX12_given_154 rfl rfl ?_
    refine r_iload X 3 dX12_given_155 rfl ?_
    obtain ⟨q5, hq5, hf⟩ := bd_some hf
    refine r_callVV X (As := [mI x4]) (st := []) (as := fun ad => [.ref (ad 0), mI x4]) (c_M_fairOf hq5) rfl yw_X12_fairOf yv_X12_fairOf ml_RX12_311 o_M_0 rfl rfl ⟨rfl, rfl⟩ ⟨Nat.le_of_ble_eq_true rfl, Nat.le_of_ble_eq_true rfl⟩ rfl rfl (Nat.le_of_ble_eq_true rfl) dX12_given_157 ?_
    refine r_aload_n X 0 dX12_given_160 rfl rfl ?_
    refine r_getR X fl_12_159 k_M_0_65 dX12_given_161 ?_
    refine r_iload X 3 dX12_given_164 rfl ?_
    refine r_aload_n X 0 dX12_given_166 rfl rfl ?_
    refine r_getL X fl_12_305 k_M_0_79 dX12_given_167 ?_
    obtain ⟨hg6, hf⟩ := gd_some hf
    refine r_last X a_M_45 hg6 dX12_given_170 ?_
    refine r_aload_n X 0 dX12_given_171 rfl rfl ?_
    refine r_getR X fl_12_162 k_M_0_66 dX12_given_172 ?_
    refine r_iload X 3 dX12_given_175 rfl ?_
    refine r_aload_n X 0 dX12_given_177 rfl rfl ?_
    refine r_getL X fl_12_308 k_M_0_80 dX12_given_178 ?_
    obtain ⟨hg8, hf⟩ := gd_some hf
    refine r_last X a_M_46 hg8 dX12_given_181 ?_
    refine r_iinc (lv2 := [(4, mI (x4 + 1)), (0, .ref (ad 0)), (1, mI x1), (2, mI x2)]) X 3 dX12_given_182 rfl (by decide) rfl ?_
    refine r_goto (tgt := 103) X dX12_given_185 (by decide) ?_
    refine r_perm (lv2 := [(0, .ref (ad 0)), (1, mI x1), (2, mI x2), (4, mI (x4 + 1))]) [1, 2, 3, 0] rfl ?_
    exact hkc _ _ _ _ hf
set_option maxRecDepth 100000 in
set_option maxHeartbeats 4000000 in
theorem b_M_given_103_ok {p : Program} {l : Launch} {e : Env} {s : State} {m : MethodId} {args : Array Value} {below : List Frame} {meth : Method} {c : Code} {D : va_G} {cy : Nat → ClassId} {ad : Nat → Nat} (X : CX p s m args meth c cX12_given RX12 8 (some .int) D shM cy ad (aw shM ad)) {F : Nat} {kc : St → Int → Int → Int → Option (Int × St)} {k188 : St → Int → Int → Option (Int × St)} {q : Int × St} (hkc : ∀ sg x1 x2 x4, kc sg x1 x2 x4 = some q → GG p l e rm_M_given s m args below meth c (QI D shM cy ad below args s q) D shM cy ad (aw shM ad) 8 103 [(0, .ref (ad 0)), (1, mI x1), (2, mI x2), (4, mI x4)] [] sg) (hk188 : ∀ sg x1 x2, k188 sg x1 x2 = some q → GG p l e rm_M_given s m args below meth c (QI D shM cy ad below args s q) D shM cy ad (aw shM ad) 8 188 [(0, .ref (ad 0)), (1, mI x1), (2, mI x2)] [] sg) {sg : St} {x1 x2 x4 : Int} (hf : b_M_given_103  F kc k188 sg x1 x2 x4 = some q) : GG p l e rm_M_given s m args below meth c (QI D shM cy ad below args s q) D shM cy ad (aw shM ad) 8 103 [(0, .ref (ad 0)), (1, mI x1), (2, mI x2), (4, mI x4)] [] sg := by
  refine r_iload X 3 dX12_given_103 rfl ?_
  refine r_aload_n X 0 dX12_given_105 rfl rfl ?_
  refine r_getI X fl_12_205 k_M_0_4 dX12_given_106 ?_
  refine r_icmp_ge (tgt := 188) X dX12_given_109 (by decide) (fun hc1 => ?_) (fun hc1 => ?_)
  · have hf := ite_yes hc1 hf
    refine r_perm (lv2 := [(0, .ref (ad 0)), (1, mI x1), (2, mI x2)]) [0, 1, 2] rfl ?_
    exact hk188 _ _ _ hf
  · have hf := ite_no hc1 hf
    refine r_aload_n X 0 dX12_given_112 rfl rfl ?_
    refine r_getR X fl_12_168 k_M_0_68 dX12_given_113 ?_
    refine r_iload X 3 dX12_given_116 rfl ?_
    refine r_iconst X dX12_given_118 ?_
    obtain ⟨hg2, hf⟩ := gd_some hf
    refine r_zast X a_M_48 hg2 dX12_given_119 ?_
    refine r_aload_n X 0 dX12_given_120 rfl rfl ?_
    refine r_getR X fl_12_165 k_M_0_67 dX12_given_121 ?_
    refine r_iload X 3 dX12_given_124 rfl ?_
    refine r_aload_n X 0 dX12_given_126 rfl rfl ?_
    refine r_iload X 3 dX12_given_127 rfl ?_
    obtain ⟨q4, hq4, hf⟩ := bd_some hf
    refine r_callVI X (As := [mI x4]) (st := [mI x4, .ref (ad 47)]) (as := fun ad => [.ref (ad 0), mI x4]) (c_M_countOf hq4) rfl yw_X12_countOf yv_X12_countOf ml_RX12_267 o_M_0 rfl rfl ⟨rfl, rfl⟩ ⟨Nat.le_of_ble_eq_true rfl, Nat.le_of_ble_eq_true rfl⟩ rfl rfl (Nat.le_of_ble_eq_true rfl) dX12_given_129 ?_
    refine r_if_le (tgt := 139) X dX12_given_132 (by decide) (fun hc5 => ?_) (fun hc5 => ?_)
    · have hf := ite_yes hc5 hf
      refine r_iconst X dX12_given_139 ?_
      exact b_M_given_140_ok X hkc hk188 hf
    · have hf := ite_no hc5 hf
      refine r_iconst X dX12_given_135 ?_
      refine r_goto (tgt := 140) X dX12_given_136 (by decide) ?_
      exact b_M_given_140_ok X hkc hk188 hf
set_option maxRecDepth 100000 in
set_option maxHeartbeats 4000000 in
theorem l_M_given_103_ok {p : Program} {l : Launch} {e : Env} {s : State} {m : MethodId} {args : Array Value} {below : List Frame} {meth : Method} {c : Code} {D : va_G} {cy : Nat → ClassId} {ad : Nat → Nat} (X : CX p s m args meth c cX12_given RX12 8 (some .int) D shM cy ad (aw shM ad)) {F : Nat} {k188 : St → Int → Int → Option (Int × St)} {q : Int × St} (hk188 : ∀ sg x1 x2, k188 sg x1 x2 = some q → GG p l e rm_M_given s m args below meth c (QI D shM cy ad below args s q) D shM cy ad (aw shM ad) 8 188 [(0, .ref (ad 0)), (1, mI x1), (2, mI x2)] [] sg) : ∀ (n : Nat) (sg : St) (x1 x2 x4 : Int), l_M_given_103  F k188 n sg x1 x2 x4 = some q → GG p l e rm_M_given s m args below meth c (QI D shM cy ad below args s q) D shM cy ad (aw shM ad) 8 103 [(0, .ref (ad 0)), (1, mI x1), (2, mI x2), (4, mI x4)] [] sg := by
  intro n
  induction n with
  | zero => intro sg x1 x2 x4 h; cases h
  | succ n ih => exact fun sg x1 x2 x4 h => b_M_given_103_ok X ih hk188 h
set_option maxRecDepth 100000 in
set_option maxHeartbeats 4000000 in
theorem b_M_given_53_ok {p : Program} {l : Launch} {e : Env} {s : State} {m : MethodId} {args : Array Value} {below : List Frame} {meth : Method} {c : Code} {D : va_G} {cy : Nat → ClassId} {ad : Nat → Nat} (X : CX p s m args meth c cX12_given RX12 8 (some .int) D shM cy ad (aw shM ad)) {F : Nat} {kc : St → Int → Int → Int → Option (Int × St)} {k100 : St → Int → Int → Option (Int × St)} {q : Int × St} (hkc : ∀ sg x1 x2 x4, kc sg x1 x2 x4 = some q → GG p l e rm_M_given s m args below meth c (QI D shM cy ad below args s q) D shM cy ad (aw shM ad) 8 53 [(0, .ref (ad 0)), (1, mI x1), (2, mI x2), (4, mI x4)] [] sg) (hk100 : ∀ sg x1 x2, k100 sg x1 x2 = some q → GG p l e rm_M_given s m args below meth c (QI D shM cy ad below args s q) D shM cy ad (aw shM ad) 8 100 [(0, .ref (ad 0)), (1, mI x1), (2, mI x2)] [] sg) {sg : St} {x1 x2 x4 : Int} (hf : b_M_given_53  F kc k100 sg x1 x2 x4 = some q) : GG p l e rm_M_given s m args below meth c (QI D shM cy ad below args s q) D shM cy ad (aw shM ad) 8 53 [(0, .ref (ad 0)), (1, mI x1), (2, mI x2), (4, mI x4)] [] sg := by
  refine r_iload X 3 dX12_given_53 rfl ?_
  refine r_aload_n X 0 dX12_given_55 rfl rfl ?_
  refine r_getI X fl_12_208 k_M_0_5 dX12_given_56 ?_
  refine r_icmp_ge (tgt := 100) X dX12_given_59 (by decide) (fun hc1 => ?_) (fun hc1 => ?_)
  · have hf := ite_yes hc1 hf
    refine r_perm (lv2 := [(0, .ref (ad 0)), (1, mI x1), (2, mI x2)]) [0, 1, 2] rfl ?_
    exact hk100 _ _ _ hf
  · have hf := ite_no hc1 hf
    refine r_aload_n X 0 dX12_given_62 rfl rfl ?_
    refine r_getR X fl_12_94 k_M_0_36 dX12_given_63 ?_
    refine r_iload X 3 dX12_given_66 rfl ?_
    obtain ⟨hg2, hf⟩ := gd_some hf
    refine r_iald X a_M_26 hg2 dX12_given_68 ?_
    refine r_if_lt (tgt := 94) X dX12_given_69 (by decide) (fun hc3 => ?_) (fun hc3 => ?_)
    · have hf := ite_yes hc3 hf
      refine r_iinc (lv2 := [(4, mI (x4 + 1)), (0, .ref (ad 0)), (1, mI x1), (2, mI x2)]) X 3 dX12_given_94 rfl (by decide) rfl ?_
      refine r_goto (tgt := 53) X dX12_given_97 (by decide) ?_
      refine r_perm (lv2 := [(0, .ref (ad 0)), (1, mI x1), (2, mI x2), (4, mI (x4 + 1))]) [1, 2, 3, 0] rfl ?_
      exact hkc _ _ _ _ hf
    · have hf := ite_no hc3 hf
      refine r_aload_n X 0 dX12_given_72 rfl rfl ?_
      refine r_aload_n X 0 dX12_given_73 rfl rfl ?_
      refine r_getR X fl_12_94 k_M_0_36 dX12_given_74 ?_
      refine r_iload X 3 dX12_given_77 rfl ?_
      obtain ⟨hg4, hf⟩ := gd_some hf
      refine r_iald X a_M_26 hg4 dX12_given_79 ?_
      obtain ⟨q5, hq5, hf⟩ := bd_some hf
      refine r_callVI X (As := [mI (sg 26 (ix x4))]) (st := []) (as := fun ad => [.ref (ad 0), mI (sg 26 (ix x4))]) (c_M_sizeOf hq5) rfl yw_X12_sizeOf yv_X12_sizeOf ml_RX12_295 o_M_0 rfl rfl ⟨rfl, rfl⟩ ⟨Nat.le_of_ble_eq_true rfl, Nat.le_of_ble_eq_true rfl⟩ rfl rfl (Nat.le_of_ble_eq_true rfl) dX12_given_80 ?_
      refine r_iconst X dX12_given_83 ?_
      refine r_icmp_le (tgt := 94) X dX12_given_84 (by decide) (fun hc6 => ?_) (fun hc6 => ?_)
      · have hf := ite_yes hc6 hf
        refine r_iinc (lv2 := [(4, mI (x4 + 1)), (0, .ref (ad 0)), (1, mI x1), (2, mI x2)]) X 3 dX12_given_94 rfl (by decide) rfl ?_
        refine r_goto (tgt := 53) X dX12_given_97 (by decide) ?_
        refine r_perm (lv2 := [(0, .ref (ad 0)), (1, mI x1), (2, mI x2), (4, mI (x4 + 1))]) [1, 2, 3, 0] rfl ?_
        exact hkc _ _ _ _ hf
      · have hf := ite_no hc6 hf
        refine r_aload_n X 0 dX12_given_87 rfl rfl ?_
        refine r_bipush X dX12_given_88 (by decide) ?_
        obtain ⟨q7, hq7, hf⟩ := bd_some hf
        refine r_callVI X (As := [mI 9]) (st := []) (as := fun ad => [.ref (ad 0), mI 9]) (c_M_refuse hq7) rfl yw_X12_refuse yv_X12_refuse ml_RX12_201 o_M_0 rfl rfl ⟨rfl, rfl⟩ ⟨Nat.le_of_ble_eq_true rfl, Nat.le_of_ble_eq_true rfl⟩ rfl rfl (Nat.le_of_ble_eq_true rfl) dX12_given_90 ?_
        exact r_ireturn X hf dX12_given_93
set_option maxRecDepth 100000 in
set_option maxHeartbeats 4000000 in
theorem l_M_given_53_ok {p : Program} {l : Launch} {e : Env} {s : State} {m : MethodId} {args : Array Value} {below : List Frame} {meth : Method} {c : Code} {D : va_G} {cy : Nat → ClassId} {ad : Nat → Nat} (X : CX p s m args meth c cX12_given RX12 8 (some .int) D shM cy ad (aw shM ad)) {F : Nat} {k100 : St → Int → Int → Option (Int × St)} {q : Int × St} (hk100 : ∀ sg x1 x2, k100 sg x1 x2 = some q → GG p l e rm_M_given s m args below meth c (QI D shM cy ad below args s q) D shM cy ad (aw shM ad) 8 100 [(0, .ref (ad 0)), (1, mI x1), (2, mI x2)] [] sg) : ∀ (n : Nat) (sg : St) (x1 x2 x4 : Int), l_M_given_53  F k100 n sg x1 x2 x4 = some q → GG p l e rm_M_given s m args below meth c (QI D shM cy ad below args s q) D shM cy ad (aw shM ad) 8 53 [(0, .ref (ad 0)), (1, mI x1), (2, mI x2), (4, mI x4)] [] sg := by
  intro n
  induction n with
  | zero => intro sg x1 x2 x4 h; cases h
  | succ n ih => exact fun sg x1 x2 x4 h => b_M_given_53_ok X ih hk100 h
set_option maxRecDepth 100000 in
set_option maxHeartbeats 4000000 in
theorem b_M_given_26_ok {p : Program} {l : Launch} {e : Env} {s : State} {m : MethodId} {args : Array Value} {below : List Frame} {meth : Method} {c : Code} {D : va_G} {cy : Nat → ClassId} {ad : Nat → Nat} (X : CX p s m args meth c cX12_given RX12 8 (some .int) D shM cy ad (aw shM ad)) {F : Nat} {q : Int × St} {sg : St} (hf : b_M_given_26  F  sg  = some q) : GG p l e rm_M_given s m args below meth c (QI D shM cy ad below args s q) D shM cy ad (aw shM ad) 8 26 [(0, .ref (ad 0))] [] sg := by
  refine r_aload_n X 0 dX12_given_26 rfl rfl ?_
  refine r_iconst X dX12_given_27 ?_
  obtain ⟨q1, hq1, hf⟩ := bd_some hf
  refine r_callVI X (As := [mI 1]) (st := []) (as := fun ad => [.ref (ad 0), mI 1]) (c_M_refuse hq1) rfl yw_X12_refuse yv_X12_refuse ml_RX12_201 o_M_0 rfl rfl ⟨rfl, rfl⟩ ⟨Nat.le_of_ble_eq_true rfl, Nat.le_of_ble_eq_true rfl⟩ rfl rfl (Nat.le_of_ble_eq_true rfl) dX12_given_28 ?_
  exact r_ireturn X hf dX12_given_31
set_option maxRecDepth 100000 in
set_option maxHeartbeats 4000000 in
theorem c_M_given {l : Launch} {F : Nat} {sg : St} {x1 x2 x3 : Int} {q : Int × St} (hf : f_M_given F  sg x1 x2 x3 = some q) : MI l shM yX12_given cX12_given 8 (some .int) rm_M_given (fun ad => [.ref (ad 0), mI x1, mI x2, mI x3]) sg q.2 q.1 := by
  refine mk_i (by decide) (fun _ => Nat.le_of_ble_eq_true rfl) (fun p e s m args below meth c D cy ad X => ?_)
  have X : CX p s m args meth c cX12_given RX12 8 (some .int) D shM cy ad (aw shM ad) := X
  refine r_perm (lv2 := [(0, .ref (ad 0)), (1, mI x1), (2, mI x2), (3, mI x3)]) [0, 1, 2, 3] rfl ?_
  refine r_aload_n X 0 dX12_given_0 rfl rfl ?_
  refine r_iconst X dX12_given_1 ?_
  refine r_putI X fp_12_195 k_M_0_1 rfl rfl dX12_given_2 ?_
  refine r_aload_n X 0 dX12_given_5 rfl rfl ?_
  refine r_iconst X dX12_given_6 ?_
  refine r_putI X fp_12_198 k_M_0_0 rfl rfl dX12_given_7 ?_
  refine r_iload_n X 1 dX12_given_10 rfl rfl ?_
  refine r_if_lt (tgt := 26) X dX12_given_11 (by decide) (fun hc3 => ?_) (fun hc3 => ?_)
  · have hf := ite_yes hc3 hf
    refine r_perm (lv2 := [(0, .ref (ad 0))]) [0] rfl ?_
    exact b_M_given_26_ok X  hf
  · have hf := ite_no hc3 hf
    refine r_iload_n X 1 dX12_given_14 rfl rfl ?_
    refine r_aload_n X 0 dX12_given_15 rfl rfl ?_
    refine r_getI X fl_12_387 k_M_0_51 dX12_given_16 ?_
    refine r_icmp_ge (tgt := 26) X dX12_given_19 (by decide) (fun hc4 => ?_) (fun hc4 => ?_)
    · have hf := ite_yes hc4 hf
      refine r_perm (lv2 := [(0, .ref (ad 0))]) [0] rfl ?_
      exact b_M_given_26_ok X  hf
    · have hf := ite_no hc4 hf
      refine r_iload_n X 2 dX12_given_22 rfl rfl ?_
      refine r_if_ge (tgt := 32) X dX12_given_23 (by decide) (fun hc5 => ?_) (fun hc5 => ?_)
      · have hf := ite_yes hc5 hf
        refine r_iload_n X 3 dX12_given_32 rfl rfl ?_
        obtain ⟨q6, hq6, hf⟩ := bd_some hf
        refine r_callSI X (As := [mI x3]) (st := []) (as := fun ad => [mI x3]) (c_M_isDay hq6) rfl yw_X12_isDay ys_X12_isDay ml_RX12_253 ⟨rfl, rfl⟩ ⟨Nat.le_of_ble_eq_true rfl, Nat.le_of_ble_eq_true rfl⟩ rfl rfl (Nat.le_of_ble_eq_true rfl) dX12_given_33 ?_
        refine r_if_ne (tgt := 45) X dX12_given_36 (by decide) (fun hc7 => ?_) (fun hc7 => ?_)
        · have hf := ite_yes hc7 hf
          refine r_aload_n X 0 dX12_given_39 rfl rfl ?_
          refine r_iconst X dX12_given_40 ?_
          obtain ⟨q8, hq8, hf⟩ := bd_some hf
          refine r_callVI X (As := [mI 2]) (st := []) (as := fun ad => [.ref (ad 0), mI 2]) (c_M_refuse hq8) rfl yw_X12_refuse yv_X12_refuse ml_RX12_201 o_M_0 rfl rfl ⟨rfl, rfl⟩ ⟨Nat.le_of_ble_eq_true rfl, Nat.le_of_ble_eq_true rfl⟩ rfl rfl (Nat.le_of_ble_eq_true rfl) dX12_given_41 ?_
          exact r_ireturn X hf dX12_given_44
        · have hf := ite_no hc7 hf
          refine r_aload_n X 0 dX12_given_45 rfl rfl ?_
          refine r_iload_n X 3 dX12_given_46 rfl rfl ?_
          obtain ⟨q9, hq9, hf⟩ := bd_some hf
          refine r_callVV X (As := [mI x3]) (st := []) (as := fun ad => [.ref (ad 0), mI x3]) (c_M_known hq9) rfl yw_X12_known yv_X12_known ml_RX12_264 o_M_0 rfl rfl ⟨rfl, rfl⟩ ⟨Nat.le_of_ble_eq_true rfl, Nat.le_of_ble_eq_true rfl⟩ rfl rfl (Nat.le_of_ble_eq_true rfl) dX12_given_47 ?_
          refine r_iconst X dX12_given_50 ?_
          refine r_istore (lv2 := [(4, mI 0), (0, .ref (ad 0)), (1, mI x1), (2, mI x2), (3, mI x3)]) X dX12_given_51 (by decide) rfl ?_
          refine r_perm (lv2 := [(0, .ref (ad 0)), (1, mI x1), (2, mI x2), (4, mI 0)]) [1, 2, 3, 0] rfl ?_
          refine l_M_given_53_ok X ?_ F _ _ _ _ hf
          · intro s10 x1_11 x2_12 hf
            refine r_iconst X dX12_given_100 ?_
            refine r_istore (lv2 := [(4, mI 0), (0, .ref (ad 0)), (1, mI x1_11), (2, mI x2_12)]) X dX12_given_101 (by decide) rfl ?_
            refine r_perm (lv2 := [(0, .ref (ad 0)), (1, mI x1_11), (2, mI x2_12), (4, mI 0)]) [1, 2, 3, 0] rfl ?_
            refine l_M_given_103_ok X ?_ F _ _ _ _ hf
            · intro s13 x1_14 x2_15 hf
              refine r_iconst X dX12_given_188 ?_
              refine r_istore (lv2 := [(4, mI 0), (0, .ref (ad 0)), (1, mI x1_14), (2, mI x2_15)]) X dX12_given_189 (by decide) rfl ?_
              refine r_perm (lv2 := [(0, .ref (ad 0)), (1, mI x1_14), (2, mI x2_15), (4, mI 0)]) [1, 2, 3, 0] rfl ?_
              refine l_M_given_191_ok X ?_ F _ _ _ _ hf
              · intro s16  hf
                refine r_aload_n X 0 dX12_given_392 rfl rfl ?_
                refine r_iconst X dX12_given_393 ?_
                obtain ⟨q17, hq17, hf⟩ := bd_some hf
                refine r_callVI X (As := [mI 1]) (st := []) (as := fun ad => [.ref (ad 0), mI 1]) (c_M_refuse hq17) rfl yw_X12_refuse yv_X12_refuse ml_RX12_201 o_M_0 rfl rfl ⟨rfl, rfl⟩ ⟨Nat.le_of_ble_eq_true rfl, Nat.le_of_ble_eq_true rfl⟩ rfl rfl (Nat.le_of_ble_eq_true rfl) dX12_given_394 ?_
                exact r_ireturn X hf dX12_given_397
      · have hf := ite_no hc5 hf
        refine r_perm (lv2 := [(0, .ref (ad 0))]) [0] rfl ?_
        exact b_M_given_26_ok X  hf
set_option maxRecDepth 100000 in
set_option maxHeartbeats 4000000 in
theorem b_M_hall_41_ok {p : Program} {l : Launch} {e : Env} {s : State} {m : MethodId} {args : Array Value} {below : List Frame} {meth : Method} {c : Code} {D : va_G} {cy : Nat → ClassId} {ad : Nat → Nat} (X : CX p s m args meth c cX12_hall RX12 4 (some .int) D shM cy ad (aw shM ad)) {F : Nat} {q : Int × St} {sg : St} (hf : b_M_hall_41  F  sg  = some q) : GG p l e rm_M_hall s m args below meth c (QI D shM cy ad below args s q) D shM cy ad (aw shM ad) 4 41 [(0, .ref (ad 0))] [] sg := by
  refine r_aload_n X 0 dX12_hall_41 rfl rfl ?_
  refine r_iconst X dX12_hall_42 ?_
  obtain ⟨q1, hq1, hf⟩ := bd_some hf
  refine r_callVI X (As := [mI 2]) (st := []) (as := fun ad => [.ref (ad 0), mI 2]) (c_M_refuse hq1) rfl yw_X12_refuse yv_X12_refuse ml_RX12_201 o_M_0 rfl rfl ⟨rfl, rfl⟩ ⟨Nat.le_of_ble_eq_true rfl, Nat.le_of_ble_eq_true rfl⟩ rfl rfl (Nat.le_of_ble_eq_true rfl) dX12_hall_43 ?_
  exact r_ireturn X hf dX12_hall_46
set_option maxRecDepth 100000 in
set_option maxHeartbeats 4000000 in
theorem c_M_hall {l : Launch} {sg : St} {x1 x2 x3 : Int} {q : Int × St} (hf : f_M_hall  sg x1 x2 x3 = some q) : MI l shM yX12_hall cX12_hall 4 (some .int) rm_M_hall (fun ad => [.ref (ad 0), mI x1, mI x2, mI x3]) sg q.2 q.1 := by
  refine mk_i (by decide) (fun _ => Nat.le_of_ble_eq_true rfl) (fun p e s m args below meth c D cy ad X => ?_)
  have X : CX p s m args meth c cX12_hall RX12 4 (some .int) D shM cy ad (aw shM ad) := X
  refine r_perm (lv2 := [(0, .ref (ad 0)), (1, mI x1), (2, mI x2), (3, mI x3)]) [0, 1, 2, 3] rfl ?_
  refine r_aload_n X 0 dX12_hall_0 rfl rfl ?_
  refine r_iconst X dX12_hall_1 ?_
  refine r_putI X fp_12_195 k_M_0_1 rfl rfl dX12_hall_2 ?_
  refine r_aload_n X 0 dX12_hall_5 rfl rfl ?_
  refine r_iconst X dX12_hall_6 ?_
  refine r_putI X fp_12_198 k_M_0_0 rfl rfl dX12_hall_7 ?_
  refine r_iload_n X 1 dX12_hall_10 rfl rfl ?_
  refine r_if_lt (tgt := 41) X dX12_hall_11 (by decide) (fun hc3 => ?_) (fun hc3 => ?_)
  · have hf := ite_yes hc3 hf
    refine r_perm (lv2 := [(0, .ref (ad 0))]) [0] rfl ?_
    exact b_M_hall_41_ok X  hf
  · have hf := ite_no hc3 hf
    refine r_iload_n X 1 dX12_hall_14 rfl rfl ?_
    refine r_bipush X dX12_hall_15 (by decide) ?_
    refine r_icmp_gt (tgt := 41) X dX12_hall_17 (by decide) (fun hc4 => ?_) (fun hc4 => ?_)
    · have hf := ite_yes hc4 hf
      refine r_perm (lv2 := [(0, .ref (ad 0))]) [0] rfl ?_
      exact b_M_hall_41_ok X  hf
    · have hf := ite_no hc4 hf
      refine r_iload_n X 2 dX12_hall_20 rfl rfl ?_
      refine r_if_lt (tgt := 41) X dX12_hall_21 (by decide) (fun hc5 => ?_) (fun hc5 => ?_)
      · have hf := ite_yes hc5 hf
        refine r_perm (lv2 := [(0, .ref (ad 0))]) [0] rfl ?_
        exact b_M_hall_41_ok X  hf
      · have hf := ite_no hc5 hf
        refine r_iload_n X 2 dX12_hall_24 rfl rfl ?_
        refine r_sipush X dX12_hall_25 (by decide) ?_
        refine r_icmp_gt (tgt := 41) X dX12_hall_28 (by decide) (fun hc6 => ?_) (fun hc6 => ?_)
        · have hf := ite_yes hc6 hf
          refine r_perm (lv2 := [(0, .ref (ad 0))]) [0] rfl ?_
          exact b_M_hall_41_ok X  hf
        · have hf := ite_no hc6 hf
          refine r_iload_n X 3 dX12_hall_31 rfl rfl ?_
          refine r_if_lt (tgt := 41) X dX12_hall_32 (by decide) (fun hc7 => ?_) (fun hc7 => ?_)
          · have hf := ite_yes hc7 hf
            refine r_perm (lv2 := [(0, .ref (ad 0))]) [0] rfl ?_
            exact b_M_hall_41_ok X  hf
          · have hf := ite_no hc7 hf
            refine r_iload_n X 3 dX12_hall_35 rfl rfl ?_
            refine r_bipush X dX12_hall_36 (by decide) ?_
            refine r_icmp_le (tgt := 47) X dX12_hall_38 (by decide) (fun hc8 => ?_) (fun hc8 => ?_)
            · have hf := ite_yes hc8 hf
              refine r_aload_n X 0 dX12_hall_47 rfl rfl ?_
              refine r_getI X fl_12_403 k_M_0_70 dX12_hall_48 ?_
              refine r_iconst X dX12_hall_51 ?_
              refine r_icmp_ne (tgt := 61) X dX12_hall_52 (by decide) (fun hc9 => ?_) (fun hc9 => ?_)
              · have hf := ite_yes hc9 hf
                refine r_aload_n X 0 dX12_hall_55 rfl rfl ?_
                refine r_iconst X dX12_hall_56 ?_
                obtain ⟨q10, hq10, hf⟩ := bd_some hf
                refine r_callVI X (As := [mI 3]) (st := []) (as := fun ad => [.ref (ad 0), mI 3]) (c_M_refuse hq10) rfl yw_X12_refuse yv_X12_refuse ml_RX12_201 o_M_0 rfl rfl ⟨rfl, rfl⟩ ⟨Nat.le_of_ble_eq_true rfl, Nat.le_of_ble_eq_true rfl⟩ rfl rfl (Nat.le_of_ble_eq_true rfl) dX12_hall_57 ?_
                exact r_ireturn X hf dX12_hall_60
              · have hf := ite_no hc9 hf
                refine r_aload_n X 0 dX12_hall_61 rfl rfl ?_
                refine r_getR X fl_12_174 k_M_0_72 dX12_hall_62 ?_
                refine r_aload_n X 0 dX12_hall_65 rfl rfl ?_
                refine r_getI X fl_12_403 k_M_0_70 dX12_hall_66 ?_
                refine r_iload_n X 1 dX12_hall_69 rfl rfl ?_
                obtain ⟨hg11, hf⟩ := gd_some hf
                refine r_iast X a_M_50 hg11 dX12_hall_70 ?_
                refine r_aload_n X 0 dX12_hall_71 rfl rfl ?_
                refine r_getR X fl_12_177 k_M_0_73 dX12_hall_72 ?_
                refine r_aload_n X 0 dX12_hall_75 rfl rfl ?_
                refine r_getI X fl_12_403 k_M_0_70 dX12_hall_76 ?_
                refine r_iload_n X 2 dX12_hall_79 rfl rfl ?_
                obtain ⟨hg13, hf⟩ := gd_some hf
                refine r_iast X a_M_51 hg13 dX12_hall_80 ?_
                refine r_aload_n X 0 dX12_hall_81 rfl rfl ?_
                refine r_getR X fl_12_180 k_M_0_74 dX12_hall_82 ?_
                refine r_aload_n X 0 dX12_hall_85 rfl rfl ?_
                refine r_getI X fl_12_403 k_M_0_70 dX12_hall_86 ?_
                refine r_iload_n X 3 dX12_hall_89 rfl rfl ?_
                obtain ⟨hg15, hf⟩ := gd_some hf
                refine r_iast X a_M_52 hg15 dX12_hall_90 ?_
                refine r_aload_n X 0 dX12_hall_91 rfl rfl ?_
                refine r_dup X dX12_hall_92 rfl ?_
                refine r_getI X fl_12_403 k_M_0_70 dX12_hall_93 ?_
                refine r_iconst X dX12_hall_96 ?_
                refine r_iadd X dX12_hall_97 ?_
                refine r_putI X fp_12_403 k_M_0_70 rfl rfl dX12_hall_98 ?_
                refine r_aload_n X 0 dX12_hall_101 rfl rfl ?_
                refine r_getI X fl_12_403 k_M_0_70 dX12_hall_102 ?_
                refine r_iconst X dX12_hall_105 ?_
                refine r_isub X dX12_hall_106 ?_
                exact r_ireturn X hf dX12_hall_107
            · have hf := ite_no hc8 hf
              refine r_perm (lv2 := [(0, .ref (ad 0))]) [0] rfl ?_
              exact b_M_hall_41_ok X  hf
set_option maxRecDepth 100000 in
set_option maxHeartbeats 4000000 in
theorem c_M_clear {l : Launch} {sg : St} {q : Int × St} (hf : f_M_clear  sg  = some q) : MI l shM yX12_clear cX12_clear 1 (some .boolean) rm_M_clear (fun ad => [.ref (ad 0)]) sg q.2 q.1 := by
  refine mk_i (by decide) (fun _ => Nat.le_of_ble_eq_true rfl) (fun p e s m args below meth c D cy ad X => ?_)
  have X : CX p s m args meth c cX12_clear RX12 1 (some .boolean) D shM cy ad (aw shM ad) := X
  refine r_perm (lv2 := [(0, .ref (ad 0))]) [0] rfl ?_
  refine r_aload_n X 0 dX12_clear_0 rfl rfl ?_
  refine r_iconst X dX12_clear_1 ?_
  refine r_putI X fp_12_195 k_M_0_1 rfl rfl dX12_clear_2 ?_
  refine r_aload_n X 0 dX12_clear_5 rfl rfl ?_
  refine r_iconst X dX12_clear_6 ?_
  refine r_putI X fp_12_198 k_M_0_0 rfl rfl dX12_clear_7 ?_
  refine r_aload_n X 0 dX12_clear_10 rfl rfl ?_
  refine r_iconst X dX12_clear_11 ?_
  refine r_putI X fp_12_403 k_M_0_70 rfl rfl dX12_clear_12 ?_
  refine r_iconst X dX12_clear_15 ?_
  exact r_zreturn X hf rfl dX12_clear_16
set_option maxRecDepth 100000 in
set_option maxHeartbeats 4000000 in
theorem b_M_puts_48_ok {p : Program} {l : Launch} {e : Env} {s : State} {m : MethodId} {args : Array Value} {below : List Frame} {meth : Method} {c : Code} {D : va_G} {cy : Nat → ClassId} {ad : Nat → Nat} (X : CX p s m args meth c cX12_puts RX12 4 none D shM cy ad (aw shM ad)) {F : Nat} {q : St} {sg : St} {z0 z1 z2 : Int} (hf : b_M_puts_48  F  sg z0 z1 z2 = some q) : GG p l e rm_M_puts s m args below meth c (QV D shM cy ad below args s q) D shM cy ad (aw shM ad) 4 48 [] [mI z0, mI z1, mI z2, .ref (ad 56)] sg := by
  refine r_iadd X dX12_puts_48 ?_
  obtain ⟨hg1, hf⟩ := gd_some hf
  refine r_iast X a_M_56 hg1 dX12_puts_49 ?_
  exact r_vreturn X hf dX12_puts_50
set_option maxRecDepth 100000 in
set_option maxHeartbeats 4000000 in
theorem c_M_puts {l : Launch} {sg : St} {x1 x2 x3 : Int} {q : St} (hf : f_M_puts  sg x1 x2 x3 = some q) : MV l shM yX12_puts cX12_puts 4 none rm_M_puts (fun ad => [.ref (ad 0), mI x1, mI x2, mI x3]) sg q := by
  refine mk_v (by decide) (fun _ => Nat.le_of_ble_eq_true rfl) (fun p e s m args below meth c D cy ad X => ?_)
  have X : CX p s m args meth c cX12_puts RX12 4 none D shM cy ad (aw shM ad) := X
  refine r_perm (lv2 := [(0, .ref (ad 0)), (1, mI x1), (2, mI x2), (3, mI x3)]) [0, 1, 2, 3] rfl ?_
  refine r_aload_n X 0 dX12_puts_0 rfl rfl ?_
  refine r_getR X fl_12_186 k_M_0_76 dX12_puts_1 ?_
  refine r_iload_n X 2 dX12_puts_4 rfl rfl ?_
  refine r_dup2 X dX12_puts_5 rfl rfl ?_
  obtain ⟨hg1, hf⟩ := gd_some hf
  refine r_iald X a_M_54 hg1 dX12_puts_6 ?_
  refine r_iload_n X 3 dX12_puts_7 rfl rfl ?_
  refine r_iadd X dX12_puts_8 ?_
  obtain ⟨hg2, hf⟩ := gd_some hf
  refine r_iast X a_M_54 hg2 dX12_puts_9 ?_
  refine r_aload_n X 0 dX12_puts_10 rfl rfl ?_
  refine r_getR X fl_12_189 k_M_0_77 dX12_puts_11 ?_
  refine r_iload_n X 2 dX12_puts_14 rfl rfl ?_
  refine r_dup2 X dX12_puts_15 rfl rfl ?_
  obtain ⟨hg4, hf⟩ := gd_some hf
  refine r_iald X a_M_55 hg4 dX12_puts_16 ?_
  refine r_iload_n X 3 dX12_puts_17 rfl rfl ?_
  refine r_aload_n X 0 dX12_puts_18 rfl rfl ?_
  refine r_getR X fl_12_27 k_M_0_10 dX12_puts_19 ?_
  refine r_iload_n X 1 dX12_puts_22 rfl rfl ?_
  obtain ⟨hg5, hf⟩ := gd_some hf
  refine r_iald X a_M_4 hg5 dX12_puts_23 ?_
  refine r_imul X dX12_puts_24 ?_
  refine r_iadd X dX12_puts_25 ?_
  obtain ⟨hg6, hf⟩ := gd_some hf
  refine r_iast X a_M_55 hg6 dX12_puts_26 ?_
  refine r_aload_n X 0 dX12_puts_27 rfl rfl ?_
  refine r_getR X fl_12_192 k_M_0_78 dX12_puts_28 ?_
  refine r_iload_n X 2 dX12_puts_31 rfl rfl ?_
  refine r_dup2 X dX12_puts_32 rfl rfl ?_
  obtain ⟨hg8, hf⟩ := gd_some hf
  refine r_iald X a_M_56 hg8 dX12_puts_33 ?_
  refine r_aload_n X 0 dX12_puts_34 rfl rfl ?_
  refine r_getR X fl_12_39 k_M_0_14 dX12_puts_35 ?_
  refine r_iload_n X 1 dX12_puts_38 rfl rfl ?_
  obtain ⟨hg9, hf⟩ := gd_some hf
  refine r_zald X a_M_8 hg9 dX12_puts_39 ?_
  refine r_if_eq (tgt := 47) X dX12_puts_40 (by decide) (fun hc10 => ?_) (fun hc10 => ?_)
  · have hf := ite_yes hc10 hf
    refine r_iconst X dX12_puts_47 ?_
    refine r_perm (lv2 := []) [] rfl ?_
    exact b_M_puts_48_ok X  hf
  · have hf := ite_no hc10 hf
    refine r_iload_n X 3 dX12_puts_43 rfl rfl ?_
    refine r_goto (tgt := 48) X dX12_puts_44 (by decide) ?_
    refine r_perm (lv2 := []) [] rfl ?_
    exact b_M_puts_48_ok X  hf
set_option maxRecDepth 100000 in
set_option maxHeartbeats 4000000 in
theorem b_M_canBear_57_ok {p : Program} {l : Launch} {e : Env} {s : State} {m : MethodId} {args : Array Value} {below : List Frame} {meth : Method} {c : Code} {D : va_G} {cy : Nat → ClassId} {ad : Nat → Nat} (X : CX p s m args meth c cX12_canBear RX12 3 (some .boolean) D shM cy ad (aw shM ad)) {F : Nat} {q : Int × St} {sg : St} {x2 z0 z1 : Int} (hf : b_M_canBear_57  F  sg x2 z0 z1 = some q) : GG p l e rm_M_canBear s m args below meth c (QI D shM cy ad below args s q) D shM cy ad (aw shM ad) 3 57 [(0, .ref (ad 0)), (2, mI x2)] [mI z0, mI z1] sg := by
  refine r_iadd X dX12_canBear_57 ?_
  refine r_aload_n X 0 dX12_canBear_58 rfl rfl ?_
  refine r_getR X fl_12_180 k_M_0_74 dX12_canBear_59 ?_
  refine r_iload_n X 1 dX12_canBear_62 rfl rfl ?_
  obtain ⟨hg1, hf⟩ := gd_some hf
  refine r_iald X a_M_52 hg1 dX12_canBear_63 ?_
  refine r_icmp_gt (tgt := 71) X dX12_canBear_64 (by decide) (fun hc2 => ?_) (fun hc2 => ?_)
  · have hf := ite_yes hc2 hf
    refine r_iconst X dX12_canBear_71 ?_
    exact r_zreturn X hf rfl dX12_canBear_72
  · have hf := ite_no hc2 hf
    refine r_iconst X dX12_canBear_67 ?_
    refine r_goto (tgt := 72) X dX12_canBear_68 (by decide) ?_
    exact r_zreturn X hf rfl dX12_canBear_72
set_option maxRecDepth 100000 in
set_option maxHeartbeats 4000000 in
theorem c_M_canBear {l : Launch} {sg : St} {x1 x2 : Int} {q : Int × St} (hf : f_M_canBear  sg x1 x2 = some q) : MI l shM yX12_canBear cX12_canBear 3 (some .boolean) rm_M_canBear (fun ad => [.ref (ad 0), mI x1, mI x2]) sg q.2 q.1 := by
  refine mk_i (by decide) (fun _ => Nat.le_of_ble_eq_true rfl) (fun p e s m args below meth c D cy ad X => ?_)
  have X : CX p s m args meth c cX12_canBear RX12 3 (some .boolean) D shM cy ad (aw shM ad) := X
  refine r_perm (lv2 := [(0, .ref (ad 0)), (1, mI x1), (2, mI x2)]) [0, 1, 2] rfl ?_
  refine r_aload_n X 0 dX12_canBear_0 rfl rfl ?_
  refine r_getR X fl_12_186 k_M_0_76 dX12_canBear_1 ?_
  refine r_iload_n X 2 dX12_canBear_4 rfl rfl ?_
  obtain ⟨hg1, hf⟩ := gd_some hf
  refine r_iald X a_M_54 hg1 dX12_canBear_5 ?_
  refine r_aload_n X 0 dX12_canBear_6 rfl rfl ?_
  refine r_getR X fl_12_174 k_M_0_72 dX12_canBear_7 ?_
  refine r_iload_n X 2 dX12_canBear_10 rfl rfl ?_
  obtain ⟨hg2, hf⟩ := gd_some hf
  refine r_iald X a_M_50 hg2 dX12_canBear_11 ?_
  refine r_icmp_ge (tgt := 71) X dX12_canBear_12 (by decide) (fun hc3 => ?_) (fun hc3 => ?_)
  · have hf := ite_yes hc3 hf
    refine r_iconst X dX12_canBear_71 ?_
    exact r_zreturn X hf rfl dX12_canBear_72
  · have hf := ite_no hc3 hf
    refine r_aload_n X 0 dX12_canBear_15 rfl rfl ?_
    refine r_getR X fl_12_189 k_M_0_77 dX12_canBear_16 ?_
    refine r_iload_n X 2 dX12_canBear_19 rfl rfl ?_
    obtain ⟨hg4, hf⟩ := gd_some hf
    refine r_iald X a_M_55 hg4 dX12_canBear_20 ?_
    refine r_aload_n X 0 dX12_canBear_21 rfl rfl ?_
    refine r_getR X fl_12_27 k_M_0_10 dX12_canBear_22 ?_
    refine r_iload_n X 1 dX12_canBear_25 rfl rfl ?_
    obtain ⟨hg5, hf⟩ := gd_some hf
    refine r_iald X a_M_4 hg5 dX12_canBear_26 ?_
    refine r_iadd X dX12_canBear_27 ?_
    refine r_aload_n X 0 dX12_canBear_28 rfl rfl ?_
    refine r_getR X fl_12_177 k_M_0_73 dX12_canBear_29 ?_
    refine r_iload_n X 2 dX12_canBear_32 rfl rfl ?_
    obtain ⟨hg6, hf⟩ := gd_some hf
    refine r_iald X a_M_51 hg6 dX12_canBear_33 ?_
    refine r_icmp_gt (tgt := 71) X dX12_canBear_34 (by decide) (fun hc7 => ?_) (fun hc7 => ?_)
    · have hf := ite_yes hc7 hf
      refine r_iconst X dX12_canBear_71 ?_
      exact r_zreturn X hf rfl dX12_canBear_72
    · have hf := ite_no hc7 hf
      refine r_aload_n X 0 dX12_canBear_37 rfl rfl ?_
      refine r_getR X fl_12_192 k_M_0_78 dX12_canBear_38 ?_
      refine r_iload_n X 2 dX12_canBear_41 rfl rfl ?_
      obtain ⟨hg8, hf⟩ := gd_some hf
      refine r_iald X a_M_56 hg8 dX12_canBear_42 ?_
      refine r_aload_n X 0 dX12_canBear_43 rfl rfl ?_
      refine r_getR X fl_12_39 k_M_0_14 dX12_canBear_44 ?_
      refine r_iload_n X 1 dX12_canBear_47 rfl rfl ?_
      obtain ⟨hg9, hf⟩ := gd_some hf
      refine r_zald X a_M_8 hg9 dX12_canBear_48 ?_
      refine r_if_eq (tgt := 56) X dX12_canBear_49 (by decide) (fun hc10 => ?_) (fun hc10 => ?_)
      · have hf := ite_yes hc10 hf
        refine r_iconst X dX12_canBear_56 ?_
        refine r_perm (lv2 := [(0, .ref (ad 0)), (2, mI x2)]) [0, 2] rfl ?_
        exact b_M_canBear_57_ok X  hf
      · have hf := ite_no hc10 hf
        refine r_iconst X dX12_canBear_52 ?_
        refine r_goto (tgt := 57) X dX12_canBear_53 (by decide) ?_
        refine r_perm (lv2 := [(0, .ref (ad 0)), (2, mI x2)]) [0, 2] rfl ?_
        exact b_M_canBear_57_ok X  hf
set_option maxRecDepth 100000 in
set_option maxHeartbeats 4000000 in
theorem b_M_lays_95_ok {p : Program} {l : Launch} {e : Env} {s : State} {m : MethodId} {args : Array Value} {below : List Frame} {meth : Method} {c : Code} {D : va_G} {cy : Nat → ClassId} {ad : Nat → Nat} (X : CX p s m args meth c cX12_lays RX12 4 (some .int) D shM cy ad (aw shM ad)) {F : Nat} {kc : St → Int → Int → Int → Option (Int × St)} {k152 : St → Int → Int → Int → Option (Int × St)} {q : Int × St} (hkc : ∀ sg x1 x2 x3, kc sg x1 x2 x3 = some q → GG p l e rm_M_lays s m args below meth c (QI D shM cy ad below args s q) D shM cy ad (aw shM ad) 4 95 [(0, .ref (ad 0)), (1, mI x1), (2, mI x2), (3, mI x3)] [] sg) (hk152 : ∀ sg x1 x2 x3, k152 sg x1 x2 x3 = some q → GG p l e rm_M_lays s m args below meth c (QI D shM cy ad below args s q) D shM cy ad (aw shM ad) 4 152 [(0, .ref (ad 0)), (1, mI x1), (2, mI x2), (3, mI x3)] [] sg) {sg : St} {x1 x2 x3 : Int} (hf : b_M_lays_95  F kc k152 sg x1 x2 x3 = some q) : GG p l e rm_M_lays s m args below meth c (QI D shM cy ad below args s q) D shM cy ad (aw shM ad) 4 95 [(0, .ref (ad 0)), (1, mI x1), (2, mI x2), (3, mI x3)] [] sg := by
  refine r_iload_n X 2 dX12_lays_95 rfl rfl ?_
  refine r_aload_n X 0 dX12_lays_96 rfl rfl ?_
  refine r_getI X fl_12_403 k_M_0_70 dX12_lays_97 ?_
  refine r_icmp_ge (tgt := 152) X dX12_lays_100 (by decide) (fun hc1 => ?_) (fun hc1 => ?_)
  · have hf := ite_yes hc1 hf
    exact hk152 _ _ _ _ hf
  · have hf := ite_no hc1 hf
    refine r_iload_n X 3 dX12_lays_103 rfl rfl ?_
    refine r_if_ne (tgt := 152) X dX12_lays_104 (by decide) (fun hc2 => ?_) (fun hc2 => ?_)
    · have hf := ite_yes hc2 hf
      refine r_aload_n X 0 dX12_lays_107 rfl rfl ?_
      refine r_getI X fl_12_406 k_M_0_71 dX12_lays_108 ?_
      refine r_sipush X dX12_lays_111 (by decide) ?_
      refine r_icmp_ne (tgt := 120) X dX12_lays_114 (by decide) (fun hc3 => ?_) (fun hc3 => ?_)
      · have hf := ite_yes hc3 hf
        refine r_bipush X dX12_lays_117 (by decide) ?_
        exact r_ireturn X hf dX12_lays_119
      · have hf := ite_no hc3 hf
        refine r_aload_n X 0 dX12_lays_120 rfl rfl ?_
        refine r_dup X dX12_lays_121 rfl ?_
        refine r_getI X fl_12_406 k_M_0_71 dX12_lays_122 ?_
        refine r_iconst X dX12_lays_125 ?_
        refine r_iadd X dX12_lays_126 ?_
        refine r_putI X fp_12_406 k_M_0_71 rfl rfl dX12_lays_127 ?_
        refine r_aload_n X 0 dX12_lays_130 rfl rfl ?_
        refine r_iload_n X 1 dX12_lays_131 rfl rfl ?_
        refine r_iload_n X 2 dX12_lays_132 rfl rfl ?_
        obtain ⟨q5, hq5, hf⟩ := bd_some hf
        refine r_callVI X (As := [mI x1, mI x2]) (st := []) (as := fun ad => [.ref (ad 0), mI x1, mI x2]) (c_M_canBear hq5) rfl yw_X12_canBear yv_X12_canBear ml_RX12_413 o_M_0 rfl rfl ⟨rfl, rfl⟩ ⟨Nat.le_of_ble_eq_true rfl, Nat.le_of_ble_eq_true rfl⟩ rfl rfl (Nat.le_of_ble_eq_true rfl) dX12_lays_133 ?_
        refine r_istore_n (lv2 := [(3, mI q5.1), (0, .ref (ad 0)), (1, mI x1), (2, mI x2)]) X dX12_lays_136 rfl (by decide) rfl ?_
        refine r_iload_n X 3 dX12_lays_137 rfl rfl ?_
        refine r_iload_n X 0 dX12_lays_138 rfl rfl ?_
        refine r_if_eq (tgt := 146) X dX12_lays_139 (by decide) (fun hc6 => ?_) (fun hc6 => ?_)
        · have hf := ite_yes hc6 hf
          refine r_iconst X dX12_lays_146 ?_
          refine r_iadd X dX12_lays_147 ?_
          refine r_istore_n (lv2 := [(2, mI (x2 + 1)), (3, mI q5.1), (0, .ref (ad 0)), (1, mI x1)]) X dX12_lays_148 rfl (by decide) rfl ?_
          refine r_goto (tgt := 95) X dX12_lays_149 (by decide) ?_
          refine r_perm (lv2 := [(0, .ref (ad 0)), (1, mI x1), (2, mI (x2 + 1)), (3, mI q5.1)]) [2, 3, 0, 1] rfl ?_
          exact hkc _ _ _ _ hf
        · have hf := ite_no hc6 hf
          refine r_iconst X dX12_lays_142 ?_
          refine r_goto (tgt := 147) X dX12_lays_143 (by decide) ?_
          refine r_iadd X dX12_lays_147 ?_
          refine r_istore_n (lv2 := [(2, mI (x2 + 0)), (3, mI q5.1), (0, .ref (ad 0)), (1, mI x1)]) X dX12_lays_148 rfl (by decide) rfl ?_
          refine r_goto (tgt := 95) X dX12_lays_149 (by decide) ?_
          refine r_perm (lv2 := [(0, .ref (ad 0)), (1, mI x1), (2, mI (x2 + 0)), (3, mI q5.1)]) [2, 3, 0, 1] rfl ?_
          exact hkc _ _ _ _ hf
    · have hf := ite_no hc2 hf
      exact hk152 _ _ _ _ hf
set_option maxRecDepth 100000 in
set_option maxHeartbeats 4000000 in
theorem l_M_lays_95_ok {p : Program} {l : Launch} {e : Env} {s : State} {m : MethodId} {args : Array Value} {below : List Frame} {meth : Method} {c : Code} {D : va_G} {cy : Nat → ClassId} {ad : Nat → Nat} (X : CX p s m args meth c cX12_lays RX12 4 (some .int) D shM cy ad (aw shM ad)) {F : Nat} {k152 : St → Int → Int → Int → Option (Int × St)} {q : Int × St} (hk152 : ∀ sg x1 x2 x3, k152 sg x1 x2 x3 = some q → GG p l e rm_M_lays s m args below meth c (QI D shM cy ad below args s q) D shM cy ad (aw shM ad) 4 152 [(0, .ref (ad 0)), (1, mI x1), (2, mI x2), (3, mI x3)] [] sg) : ∀ (n : Nat) (sg : St) (x1 x2 x3 : Int), l_M_lays_95  F k152 n sg x1 x2 x3 = some q → GG p l e rm_M_lays s m args below meth c (QI D shM cy ad below args s q) D shM cy ad (aw shM ad) 4 95 [(0, .ref (ad 0)), (1, mI x1), (2, mI x2), (3, mI x3)] [] sg := by
  intro n
  induction n with
  | zero => intro sg x1 x2 x3 h; cases h
  | succ n ih => exact fun sg x1 x2 x3 h => b_M_lays_95_ok X ih hk152 h
set_option maxRecDepth 100000 in
set_option maxHeartbeats 4000000 in
theorem b_M_lays_152_ok {p : Program} {l : Launch} {e : Env} {s : State} {m : MethodId} {args : Array Value} {below : List Frame} {meth : Method} {c : Code} {D : va_G} {cy : Nat → ClassId} {ad : Nat → Nat} (X : CX p s m args meth c cX12_lays RX12 4 (some .int) D shM cy ad (aw shM ad)) {F : Nat} {kc : St → Int → Option (Int × St)} {k204 : St → Option (Int × St)} {q : Int × St} (hkc : ∀ sg x1, kc sg x1 = some q → GG p l e rm_M_lays s m args below meth c (QI D shM cy ad below args s q) D shM cy ad (aw shM ad) 4 55 [(0, .ref (ad 0)), (1, mI x1)] [] sg) (hk204 : ∀ sg , k204 sg  = some q → GG p l e rm_M_lays s m args below meth c (QI D shM cy ad below args s q) D shM cy ad (aw shM ad) 4 204 [] [] sg) {sg : St} {x1 x2 x3 : Int} (hf : b_M_lays_152  F kc k204 sg x1 x2 x3 = some q) : GG p l e rm_M_lays s m args below meth c (QI D shM cy ad below args s q) D shM cy ad (aw shM ad) 4 152 [(0, .ref (ad 0)), (1, mI x1), (2, mI x2), (3, mI x3)] [] sg := by
  refine r_iload_n X 3 dX12_lays_152 rfl rfl ?_
  refine r_if_eq (tgt := 191) X dX12_lays_153 (by decide) (fun hc1 => ?_) (fun hc1 => ?_)
  · have hf := ite_yes hc1 hf
    refine r_iinc (lv2 := [(1, mI (x1 + (-1))), (0, .ref (ad 0)), (2, mI x2), (3, mI x3)]) X 1 dX12_lays_191 rfl (by decide) rfl ?_
    refine r_iload_n X 0 dX12_lays_194 rfl rfl ?_
    refine r_if_ge (tgt := 201) X dX12_lays_195 (by decide) (fun hc8 => ?_) (fun hc8 => ?_)
    · have hf := ite_yes hc8 hf
      refine r_goto (tgt := 55) X dX12_lays_201 (by decide) ?_
      refine r_perm (lv2 := [(0, .ref (ad 0)), (1, mI (x1 + (-1)))]) [1, 0] rfl ?_
      exact hkc _ _ hf
    · have hf := ite_no hc8 hf
      refine r_bipush X dX12_lays_198 (by decide) ?_
      exact r_ireturn X hf dX12_lays_200
  · have hf := ite_no hc1 hf
    refine r_aload_n X 0 dX12_lays_156 rfl rfl ?_
    refine r_getR X fl_12_183 k_M_0_75 dX12_lays_157 ?_
    refine r_iload_n X 1 dX12_lays_160 rfl rfl ?_
    refine r_iload_n X 2 dX12_lays_161 rfl rfl ?_
    obtain ⟨hg2, hf⟩ := gd_some hf
    refine r_iast X a_M_53 hg2 dX12_lays_162 ?_
    refine r_aload_n X 0 dX12_lays_163 rfl rfl ?_
    refine r_iload_n X 1 dX12_lays_164 rfl rfl ?_
    refine r_iload_n X 2 dX12_lays_165 rfl rfl ?_
    refine r_iconst X dX12_lays_166 ?_
    obtain ⟨q4, hq4, hf⟩ := bd_some hf
    refine r_callVV X (As := [mI x1, mI x2, mI 1]) (st := []) (as := fun ad => [.ref (ad 0), mI x1, mI x2, mI 1]) (c_M_puts hq4) rfl yw_X12_puts yv_X12_puts ml_RX12_409 o_M_0 rfl rfl ⟨rfl, rfl⟩ ⟨Nat.le_of_ble_eq_true rfl, Nat.le_of_ble_eq_true rfl⟩ rfl rfl (Nat.le_of_ble_eq_true rfl) dX12_lays_167 ?_
    refine r_iinc (lv2 := [(1, mI (x1 + 1)), (0, .ref (ad 0)), (2, mI x2), (3, mI x3)]) X 1 dX12_lays_170 rfl (by decide) rfl ?_
    refine r_iload_n X 0 dX12_lays_173 rfl rfl ?_
    refine r_aload_n X 1 dX12_lays_174 rfl rfl ?_
    refine r_getI X fl_12_205 k_M_0_4 dX12_lays_175 ?_
    refine r_icmp_ge (tgt := 201) X dX12_lays_178 (by decide) (fun hc5 => ?_) (fun hc5 => ?_)
    · have hf := ite_yes hc5 hf
      refine r_goto (tgt := 55) X dX12_lays_201 (by decide) ?_
      refine r_perm (lv2 := [(0, .ref (ad 0)), (1, mI (x1 + 1))]) [1, 0] rfl ?_
      exact hkc _ _ hf
    · have hf := ite_no hc5 hf
      refine r_aload_n X 1 dX12_lays_181 rfl rfl ?_
      refine r_getR X fl_12_183 k_M_0_75 dX12_lays_182 ?_
      refine r_iload_n X 0 dX12_lays_185 rfl rfl ?_
      refine r_iconst X dX12_lays_186 ?_
      obtain ⟨hg6, hf⟩ := gd_some hf
      refine r_iast X a_M_53 hg6 dX12_lays_187 ?_
      refine r_goto (tgt := 201) X dX12_lays_188 (by decide) ?_
      refine r_goto (tgt := 55) X dX12_lays_201 (by decide) ?_
      refine r_perm (lv2 := [(0, .ref (ad 0)), (1, mI (x1 + 1))]) [1, 0] rfl ?_
      exact hkc _ _ hf
set_option maxRecDepth 100000 in
set_option maxHeartbeats 4000000 in
theorem b_M_lays_84_ok {p : Program} {l : Launch} {e : Env} {s : State} {m : MethodId} {args : Array Value} {below : List Frame} {meth : Method} {c : Code} {D : va_G} {cy : Nat → ClassId} {ad : Nat → Nat} (X : CX p s m args meth c cX12_lays RX12 4 (some .int) D shM cy ad (aw shM ad)) {F : Nat} {kc : St → Int → Option (Int × St)} {k204 : St → Option (Int × St)} {q : Int × St} (hkc : ∀ sg x1, kc sg x1 = some q → GG p l e rm_M_lays s m args below meth c (QI D shM cy ad below args s q) D shM cy ad (aw shM ad) 4 55 [(0, .ref (ad 0)), (1, mI x1)] [] sg) (hk204 : ∀ sg , k204 sg  = some q → GG p l e rm_M_lays s m args below meth c (QI D shM cy ad below args s q) D shM cy ad (aw shM ad) 4 204 [] [] sg) {sg : St} {x1 : Int} (hf : b_M_lays_84  F kc k204 sg x1 = some q) : GG p l e rm_M_lays s m args below meth c (QI D shM cy ad below args s q) D shM cy ad (aw shM ad) 4 84 [(0, .ref (ad 0)), (1, mI x1)] [] sg := by
  refine r_aload_n X 0 dX12_lays_84 rfl rfl ?_
  refine r_getR X fl_12_183 k_M_0_75 dX12_lays_85 ?_
  refine r_iload_n X 1 dX12_lays_88 rfl rfl ?_
  obtain ⟨hg1, hf⟩ := gd_some hf
  refine r_iald X a_M_53 hg1 dX12_lays_89 ?_
  refine r_iconst X dX12_lays_90 ?_
  refine r_iadd X dX12_lays_91 ?_
  refine r_istore_n (lv2 := [(2, mI ((sg 53 (ix x1)) + 1)), (0, .ref (ad 0)), (1, mI x1)]) X dX12_lays_92 rfl (by decide) rfl ?_
  refine r_iconst X dX12_lays_93 ?_
  refine r_istore_n (lv2 := [(3, mI 0), (2, mI ((sg 53 (ix x1)) + 1)), (0, .ref (ad 0)), (1, mI x1)]) X dX12_lays_94 rfl (by decide) rfl ?_
  refine r_perm (lv2 := [(0, .ref (ad 0)), (1, mI x1), (2, mI ((sg 53 (ix x1)) + 1)), (3, mI 0)]) [2, 3, 1, 0] rfl ?_
  refine l_M_lays_95_ok X ?_ F _ _ _ _ hf
  · intro s2 x1_3 x2_4 x3_5 hf
    exact b_M_lays_152_ok X hkc hk204 hf
set_option maxRecDepth 100000 in
set_option maxHeartbeats 4000000 in
theorem b_M_lays_55_ok {p : Program} {l : Launch} {e : Env} {s : State} {m : MethodId} {args : Array Value} {below : List Frame} {meth : Method} {c : Code} {D : va_G} {cy : Nat → ClassId} {ad : Nat → Nat} (X : CX p s m args meth c cX12_lays RX12 4 (some .int) D shM cy ad (aw shM ad)) {F : Nat} {kc : St → Int → Option (Int × St)} {k204 : St → Option (Int × St)} {q : Int × St} (hkc : ∀ sg x1, kc sg x1 = some q → GG p l e rm_M_lays s m args below meth c (QI D shM cy ad below args s q) D shM cy ad (aw shM ad) 4 55 [(0, .ref (ad 0)), (1, mI x1)] [] sg) (hk204 : ∀ sg , k204 sg  = some q → GG p l e rm_M_lays s m args below meth c (QI D shM cy ad below args s q) D shM cy ad (aw shM ad) 4 204 [] [] sg) {sg : St} {x1 : Int} (hf : b_M_lays_55  F kc k204 sg x1 = some q) : GG p l e rm_M_lays s m args below meth c (QI D shM cy ad below args s q) D shM cy ad (aw shM ad) 4 55 [(0, .ref (ad 0)), (1, mI x1)] [] sg := by
  refine r_iload_n X 1 dX12_lays_55 rfl rfl ?_
  refine r_aload_n X 0 dX12_lays_56 rfl rfl ?_
  refine r_getI X fl_12_205 k_M_0_4 dX12_lays_57 ?_
  refine r_icmp_ge (tgt := 204) X dX12_lays_60 (by decide) (fun hc1 => ?_) (fun hc1 => ?_)
  · have hf := ite_yes hc1 hf
    refine r_perm (lv2 := []) [] rfl ?_
    exact hk204 _ hf
  · have hf := ite_no hc1 hf
    refine r_aload_n X 0 dX12_lays_63 rfl rfl ?_
    refine r_getR X fl_12_183 k_M_0_75 dX12_lays_64 ?_
    refine r_iload_n X 1 dX12_lays_67 rfl rfl ?_
    obtain ⟨hg2, hf⟩ := gd_some hf
    refine r_iald X a_M_53 hg2 dX12_lays_68 ?_
    refine r_if_lt (tgt := 84) X dX12_lays_69 (by decide) (fun hc3 => ?_) (fun hc3 => ?_)
    · have hf := ite_yes hc3 hf
      exact b_M_lays_84_ok X hkc hk204 hf
    · have hf := ite_no hc3 hf
      refine r_aload_n X 0 dX12_lays_72 rfl rfl ?_
      refine r_iload_n X 1 dX12_lays_73 rfl rfl ?_
      refine r_aload_n X 0 dX12_lays_74 rfl rfl ?_
      refine r_getR X fl_12_183 k_M_0_75 dX12_lays_75 ?_
      refine r_iload_n X 1 dX12_lays_78 rfl rfl ?_
      obtain ⟨hg4, hf⟩ := gd_some hf
      refine r_iald X a_M_53 hg4 dX12_lays_79 ?_
      refine r_iconst X dX12_lays_80 ?_
      obtain ⟨q5, hq5, hf⟩ := bd_some hf
      refine r_callVV X (As := [mI x1, mI (sg 53 (ix x1)), mI (-1)]) (st := []) (as := fun ad => [.ref (ad 0), mI x1, mI (sg 53 (ix x1)), mI (-1)]) (c_M_puts hq5) rfl yw_X12_puts yv_X12_puts ml_RX12_409 o_M_0 rfl rfl ⟨rfl, rfl⟩ ⟨Nat.le_of_ble_eq_true rfl, Nat.le_of_ble_eq_true rfl⟩ rfl rfl (Nat.le_of_ble_eq_true rfl) dX12_lays_81 ?_
      exact b_M_lays_84_ok X hkc hk204 hf
set_option maxRecDepth 100000 in
set_option maxHeartbeats 4000000 in
theorem l_M_lays_55_ok {p : Program} {l : Launch} {e : Env} {s : State} {m : MethodId} {args : Array Value} {below : List Frame} {meth : Method} {c : Code} {D : va_G} {cy : Nat → ClassId} {ad : Nat → Nat} (X : CX p s m args meth c cX12_lays RX12 4 (some .int) D shM cy ad (aw shM ad)) {F : Nat} {k204 : St → Option (Int × St)} {q : Int × St} (hk204 : ∀ sg , k204 sg  = some q → GG p l e rm_M_lays s m args below meth c (QI D shM cy ad below args s q) D shM cy ad (aw shM ad) 4 204 [] [] sg) : ∀ (n : Nat) (sg : St) (x1 : Int), l_M_lays_55  F k204 n sg x1 = some q → GG p l e rm_M_lays s m args below meth c (QI D shM cy ad below args s q) D shM cy ad (aw shM ad) 4 55 [(0, .ref (ad 0)), (1, mI x1)] [] sg := by
  intro n
  induction n with
  | zero => intro sg x1 h; cases h
  | succ n ih => exact fun sg x1 h => b_M_lays_55_ok X ih hk204 h
set_option maxRecDepth 100000 in
set_option maxHeartbeats 4000000 in
theorem b_M_lays_7_ok {p : Program} {l : Launch} {e : Env} {s : State} {m : MethodId} {args : Array Value} {below : List Frame} {meth : Method} {c : Code} {D : va_G} {cy : Nat → ClassId} {ad : Nat → Nat} (X : CX p s m args meth c cX12_lays RX12 4 (some .int) D shM cy ad (aw shM ad)) {F : Nat} {kc : St → Int → Option (Int × St)} {k39 : St → Option (Int × St)} {q : Int × St} (hkc : ∀ sg x1, kc sg x1 = some q → GG p l e rm_M_lays s m args below meth c (QI D shM cy ad below args s q) D shM cy ad (aw shM ad) 4 7 [(0, .ref (ad 0)), (1, mI x1)] [] sg) (hk39 : ∀ sg , k39 sg  = some q → GG p l e rm_M_lays s m args below meth c (QI D shM cy ad below args s q) D shM cy ad (aw shM ad) 4 39 [(0, .ref (ad 0))] [] sg) {sg : St} {x1 : Int} (hf : b_M_lays_7  F kc k39 sg x1 = some q) : GG p l e rm_M_lays s m args below meth c (QI D shM cy ad below args s q) D shM cy ad (aw shM ad) 4 7 [(0, .ref (ad 0)), (1, mI x1)] [] sg := by
  refine r_iload_n X 1 dX12_lays_7 rfl rfl ?_
  refine r_iconst X dX12_lays_8 ?_
  refine r_icmp_ge (tgt := 39) X dX12_lays_9 (by decide) (fun hc1 => ?_) (fun hc1 => ?_)
  · have hf := ite_yes hc1 hf
    refine r_perm (lv2 := [(0, .ref (ad 0))]) [0] rfl ?_
    exact hk39 _ hf
  · have hf := ite_no hc1 hf
    refine r_aload_n X 0 dX12_lays_12 rfl rfl ?_
    refine r_getR X fl_12_186 k_M_0_76 dX12_lays_13 ?_
    refine r_iload_n X 1 dX12_lays_16 rfl rfl ?_
    refine r_iconst X dX12_lays_17 ?_
    obtain ⟨hg2, hf⟩ := gd_some hf
    refine r_iast X a_M_54 hg2 dX12_lays_18 ?_
    refine r_aload_n X 0 dX12_lays_19 rfl rfl ?_
    refine r_getR X fl_12_189 k_M_0_77 dX12_lays_20 ?_
    refine r_iload_n X 1 dX12_lays_23 rfl rfl ?_
    refine r_iconst X dX12_lays_24 ?_
    obtain ⟨hg4, hf⟩ := gd_some hf
    refine r_iast X a_M_55 hg4 dX12_lays_25 ?_
    refine r_aload_n X 0 dX12_lays_26 rfl rfl ?_
    refine r_getR X fl_12_192 k_M_0_78 dX12_lays_27 ?_
    refine r_iload_n X 1 dX12_lays_30 rfl rfl ?_
    refine r_iconst X dX12_lays_31 ?_
    obtain ⟨hg6, hf⟩ := gd_some hf
    refine r_iast X a_M_56 hg6 dX12_lays_32 ?_
    refine r_iinc (lv2 := [(1, mI (x1 + 1)), (0, .ref (ad 0))]) X 1 dX12_lays_33 rfl (by decide) rfl ?_
    refine r_goto (tgt := 7) X dX12_lays_36 (by decide) ?_
    refine r_perm (lv2 := [(0, .ref (ad 0)), (1, mI (x1 + 1))]) [1, 0] rfl ?_
    exact hkc _ _ hf
set_option maxRecDepth 100000 in
set_option maxHeartbeats 4000000 in
theorem l_M_lays_7_ok {p : Program} {l : Launch} {e : Env} {s : State} {m : MethodId} {args : Array Value} {below : List Frame} {meth : Method} {c : Code} {D : va_G} {cy : Nat → ClassId} {ad : Nat → Nat} (X : CX p s m args meth c cX12_lays RX12 4 (some .int) D shM cy ad (aw shM ad)) {F : Nat} {k39 : St → Option (Int × St)} {q : Int × St} (hk39 : ∀ sg , k39 sg  = some q → GG p l e rm_M_lays s m args below meth c (QI D shM cy ad below args s q) D shM cy ad (aw shM ad) 4 39 [(0, .ref (ad 0))] [] sg) : ∀ (n : Nat) (sg : St) (x1 : Int), l_M_lays_7  F k39 n sg x1 = some q → GG p l e rm_M_lays s m args below meth c (QI D shM cy ad below args s q) D shM cy ad (aw shM ad) 4 7 [(0, .ref (ad 0)), (1, mI x1)] [] sg := by
  intro n
  induction n with
  | zero => intro sg x1 h; cases h
  | succ n ih => exact fun sg x1 h => b_M_lays_7_ok X ih hk39 h
set_option maxRecDepth 100000 in
set_option maxHeartbeats 4000000 in
theorem c_M_lays {l : Launch} {F : Nat} {sg : St} {q : Int × St} (hf : f_M_lays F  sg  = some q) : MI l shM yX12_lays cX12_lays 4 (some .int) rm_M_lays (fun ad => [.ref (ad 0)]) sg q.2 q.1 := by
  refine mk_i (by decide) (fun _ => Nat.le_of_ble_eq_true rfl) (fun p e s m args below meth c D cy ad X => ?_)
  have X : CX p s m args meth c cX12_lays RX12 4 (some .int) D shM cy ad (aw shM ad) := X
  refine r_perm (lv2 := [(0, .ref (ad 0))]) [0] rfl ?_
  refine r_aload_n X 0 dX12_lays_0 rfl rfl ?_
  refine r_iconst X dX12_lays_1 ?_
  refine r_putI X fp_12_406 k_M_0_71 rfl rfl dX12_lays_2 ?_
  refine r_iconst X dX12_lays_5 ?_
  refine r_istore_n (lv2 := [(1, mI 0), (0, .ref (ad 0))]) X dX12_lays_6 rfl (by decide) rfl ?_
  refine r_perm (lv2 := [(0, .ref (ad 0)), (1, mI 0)]) [1, 0] rfl ?_
  refine l_M_lays_7_ok X ?_ F _ _ hf
  · intro s2  hf
    refine r_iconst X dX12_lays_39 ?_
    refine r_istore_n (lv2 := [(1, mI 0), (0, .ref (ad 0))]) X dX12_lays_40 rfl (by decide) rfl ?_
    refine r_aload_n X 1 dX12_lays_41 rfl rfl ?_
    refine r_getI X fl_12_205 k_M_0_4 dX12_lays_42 ?_
    refine r_if_le (tgt := 55) X dX12_lays_45 (by decide) (fun hc3 => ?_) (fun hc3 => ?_)
    · have hf := ite_yes hc3 hf
      refine r_perm (lv2 := [(0, .ref (ad 0)), (1, mI 0)]) [1, 0] rfl ?_
      refine l_M_lays_55_ok X ?_ F _ _ hf
      · intro s7  hf
        refine r_iconst X dX12_lays_204 ?_
        exact r_ireturn X hf dX12_lays_205
    · have hf := ite_no hc3 hf
      refine r_aload_n X 1 dX12_lays_48 rfl rfl ?_
      refine r_getR X fl_12_183 k_M_0_75 dX12_lays_49 ?_
      refine r_iconst X dX12_lays_52 ?_
      refine r_iconst X dX12_lays_53 ?_
      obtain ⟨hg4, hf⟩ := gd_some hf
      refine r_iast X a_M_53 hg4 dX12_lays_54 ?_
      refine r_perm (lv2 := [(0, .ref (ad 0)), (1, mI 0)]) [1, 0] rfl ?_
      refine l_M_lays_55_ok X ?_ F _ _ hf
      · intro s6  hf
        refine r_iconst X dX12_lays_204 ?_
        exact r_ireturn X hf dX12_lays_205
set_option maxRecDepth 100000 in
set_option maxHeartbeats 4000000 in
theorem c_M_laid {l : Launch} {F : Nat} {sg : St} {x1 : Int} {q : Int × St} (hf : f_M_laid F  sg x1 = some q) : MI l shM yX12_laid cX12_laid 3 (some .int) rm_M_laid (fun ad => [.ref (ad 0), mI x1]) sg q.2 q.1 := by
  refine mk_i (by decide) (fun _ => Nat.le_of_ble_eq_true rfl) (fun p e s m args below meth c D cy ad X => ?_)
  have X : CX p s m args meth c cX12_laid RX12 3 (some .int) D shM cy ad (aw shM ad) := X
  refine r_perm (lv2 := [(0, .ref (ad 0)), (1, mI x1)]) [0, 1] rfl ?_
  refine r_aload_n X 0 dX12_laid_0 rfl rfl ?_
  refine r_iconst X dX12_laid_1 ?_
  refine r_putI X fp_12_195 k_M_0_1 rfl rfl dX12_laid_2 ?_
  refine r_aload_n X 0 dX12_laid_5 rfl rfl ?_
  refine r_iconst X dX12_laid_6 ?_
  refine r_putI X fp_12_198 k_M_0_0 rfl rfl dX12_laid_7 ?_
  refine r_aload_n X 0 dX12_laid_10 rfl rfl ?_
  refine r_iload_n X 1 dX12_laid_11 rfl rfl ?_
  obtain ⟨q3, hq3, hf⟩ := bd_some hf
  refine r_callVI X (As := [mI x1]) (st := []) (as := fun ad => [.ref (ad 0), mI x1]) (c_M_isBoard hq3) rfl yw_X12_isBoard yv_X12_isBoard ml_RX12_211 o_M_0 rfl rfl ⟨rfl, rfl⟩ ⟨Nat.le_of_ble_eq_true rfl, Nat.le_of_ble_eq_true rfl⟩ rfl rfl (Nat.le_of_ble_eq_true rfl) dX12_laid_12 ?_
  refine r_if_ne (tgt := 24) X dX12_laid_15 (by decide) (fun hc4 => ?_) (fun hc4 => ?_)
  · have hf := ite_yes hc4 hf
    refine r_aload_n X 0 dX12_laid_18 rfl rfl ?_
    refine r_iconst X dX12_laid_19 ?_
    obtain ⟨q5, hq5, hf⟩ := bd_some hf
    refine r_callVI X (As := [mI 1]) (st := []) (as := fun ad => [.ref (ad 0), mI 1]) (c_M_refuse hq5) rfl yw_X12_refuse yv_X12_refuse ml_RX12_201 o_M_0 rfl rfl ⟨rfl, rfl⟩ ⟨Nat.le_of_ble_eq_true rfl, Nat.le_of_ble_eq_true rfl⟩ rfl rfl (Nat.le_of_ble_eq_true rfl) dX12_laid_20 ?_
    exact r_ireturn X hf dX12_laid_23
  · have hf := ite_no hc4 hf
    refine r_aload_n X 0 dX12_laid_24 rfl rfl ?_
    obtain ⟨q6, hq6, hf⟩ := bd_some hf
    refine r_callVI X (As := []) (st := []) (as := fun ad => [.ref (ad 0)]) (c_M_lays hq6) rfl yw_X12_lays yv_X12_lays ml_RX12_416 o_M_0 rfl rfl ⟨rfl, rfl⟩ ⟨Nat.le_of_ble_eq_true rfl, Nat.le_of_ble_eq_true rfl⟩ rfl rfl (Nat.le_of_ble_eq_true rfl) dX12_laid_25 ?_
    refine r_istore_n (lv2 := [(2, mI q6.1), (0, .ref (ad 0)), (1, mI x1)]) X dX12_laid_28 rfl (by decide) rfl ?_
    refine r_iload_n X 0 dX12_laid_29 rfl rfl ?_
    refine r_if_le (tgt := 41) X dX12_laid_30 (by decide) (fun hc7 => ?_) (fun hc7 => ?_)
    · have hf := ite_yes hc7 hf
      refine r_aload_n X 1 dX12_laid_41 rfl rfl ?_
      refine r_getR X fl_12_183 k_M_0_75 dX12_laid_42 ?_
      refine r_iload_n X 2 dX12_laid_45 rfl rfl ?_
      obtain ⟨hg9, hf⟩ := gd_some hf
      refine r_iald X a_M_53 hg9 dX12_laid_46 ?_
      exact r_ireturn X hf dX12_laid_47
    · have hf := ite_no hc7 hf
      refine r_aload_n X 1 dX12_laid_33 rfl rfl ?_
      refine r_iload_n X 0 dX12_laid_34 rfl rfl ?_
      obtain ⟨q8, hq8, hf⟩ := bd_some hf
      refine r_callVI X (As := [mI q6.1]) (st := []) (as := fun ad => [.ref (ad 0), mI q6.1]) (c_M_refuse hq8) rfl yw_X12_refuse yv_X12_refuse ml_RX12_201 o_M_0 rfl rfl ⟨rfl, rfl⟩ ⟨Nat.le_of_ble_eq_true rfl, Nat.le_of_ble_eq_true rfl⟩ rfl rfl (Nat.le_of_ble_eq_true rfl) dX12_laid_35 ?_
      refine r_goto (tgt := 47) X dX12_laid_38 (by decide) ?_
      exact r_ireturn X hf dX12_laid_47
set_option maxRecDepth 100000 in
set_option maxHeartbeats 4000000 in
theorem c_M_tries {l : Launch} {F : Nat} {sg : St} {q : Int × St} (hf : f_M_tries F  sg  = some q) : MI l shM yX12_tries cX12_tries 2 (some .int) rm_M_tries (fun ad => [.ref (ad 0)]) sg q.2 q.1 := by
  refine mk_i (by decide) (fun _ => Nat.le_of_ble_eq_true rfl) (fun p e s m args below meth c D cy ad X => ?_)
  have X : CX p s m args meth c cX12_tries RX12 2 (some .int) D shM cy ad (aw shM ad) := X
  refine r_perm (lv2 := [(0, .ref (ad 0))]) [0] rfl ?_
  refine r_aload_n X 0 dX12_tries_0 rfl rfl ?_
  refine r_iconst X dX12_tries_1 ?_
  refine r_putI X fp_12_195 k_M_0_1 rfl rfl dX12_tries_2 ?_
  refine r_aload_n X 0 dX12_tries_5 rfl rfl ?_
  refine r_iconst X dX12_tries_6 ?_
  refine r_putI X fp_12_198 k_M_0_0 rfl rfl dX12_tries_7 ?_
  refine r_aload_n X 0 dX12_tries_10 rfl rfl ?_
  obtain ⟨q3, hq3, hf⟩ := bd_some hf
  refine r_callVI X (As := []) (st := []) (as := fun ad => [.ref (ad 0)]) (c_M_lays hq3) rfl yw_X12_lays yv_X12_lays ml_RX12_416 o_M_0 rfl rfl ⟨rfl, rfl⟩ ⟨Nat.le_of_ble_eq_true rfl, Nat.le_of_ble_eq_true rfl⟩ rfl rfl (Nat.le_of_ble_eq_true rfl) dX12_tries_11 ?_
  refine r_istore_n (lv2 := [(1, mI q3.1), (0, .ref (ad 0))]) X dX12_tries_14 rfl (by decide) rfl ?_
  refine r_iload_n X 0 dX12_tries_15 rfl rfl ?_
  refine r_if_le (tgt := 27) X dX12_tries_16 (by decide) (fun hc4 => ?_) (fun hc4 => ?_)
  · have hf := ite_yes hc4 hf
    refine r_aload_n X 1 dX12_tries_27 rfl rfl ?_
    refine r_getI X fl_12_406 k_M_0_71 dX12_tries_28 ?_
    exact r_ireturn X hf dX12_tries_31
  · have hf := ite_no hc4 hf
    refine r_aload_n X 1 dX12_tries_19 rfl rfl ?_
    refine r_iload_n X 0 dX12_tries_20 rfl rfl ?_
    obtain ⟨q5, hq5, hf⟩ := bd_some hf
    refine r_callVI X (As := [mI q3.1]) (st := []) (as := fun ad => [.ref (ad 0), mI q3.1]) (c_M_refuse hq5) rfl yw_X12_refuse yv_X12_refuse ml_RX12_201 o_M_0 rfl rfl ⟨rfl, rfl⟩ ⟨Nat.le_of_ble_eq_true rfl, Nat.le_of_ble_eq_true rfl⟩ rfl rfl (Nat.le_of_ble_eq_true rfl) dX12_tries_21 ?_
    refine r_goto (tgt := 31) X dX12_tries_24 (by decide) ?_
    exact r_ireturn X hf dX12_tries_31
set_option maxRecDepth 100000 in
set_option maxHeartbeats 4000000 in
theorem b_M_grows_190_ok {p : Program} {l : Launch} {e : Env} {s : State} {m : MethodId} {args : Array Value} {below : List Frame} {meth : Method} {c : Code} {D : va_G} {cy : Nat → ClassId} {ad : Nat → Nat} (X : CX p s m args meth c cX12_grows RX12 7 (some .boolean) D shM cy ad (aw shM ad)) {F : Nat} {kc : St → Int → Int → Int → Int → Int → Int → Option (Int × St)} {k272 : St → Int → Int → Int → Int → Int → Option (Int × St)} {q : Int × St} (hkc : ∀ sg x1 x2 x3 x4 x5 x6, kc sg x1 x2 x3 x4 x5 x6 = some q → GG p l e rm_M_grows s m args below meth c (QI D shM cy ad below args s q) D shM cy ad (aw shM ad) 7 190 [(0, .ref (ad 0)), (1, mI x1), (2, mI x2), (3, mI x3), (4, mI x4), (5, mI x5), (6, mI x6)] [] sg) (hk272 : ∀ sg x1 x2 x3 x4 x5, k272 sg x1 x2 x3 x4 x5 = some q → GG p l e rm_M_grows s m args below meth c (QI D shM cy ad below args s q) D shM cy ad (aw shM ad) 7 272 [(0, .ref (ad 0)), (1, mI x1), (2, mI x2), (3, mI x3), (4, mI x4), (5, mI x5)] [] sg) {sg : St} {x1 x2 x3 x4 x5 x6 : Int} (hf : b_M_grows_190  F kc k272 sg x1 x2 x3 x4 x5 x6 = some q) : GG p l e rm_M_grows s m args below meth c (QI D shM cy ad below args s q) D shM cy ad (aw shM ad) 7 190 [(0, .ref (ad 0)), (1, mI x1), (2, mI x2), (3, mI x3), (4, mI x4), (5, mI x5), (6, mI x6)] [] sg := by
  refine r_iload X 6 dX12_grows_190 rfl ?_
  refine r_aload_n X 0 dX12_grows_192 rfl rfl ?_
  refine r_getI X fl_12_205 k_M_0_4 dX12_grows_193 ?_
  refine r_icmp_ge (tgt := 272) X dX12_grows_196 (by decide) (fun hc1 => ?_) (fun hc1 => ?_)
  · have hf := ite_yes hc1 hf
    refine r_perm (lv2 := [(0, .ref (ad 0)), (1, mI x1), (2, mI x2), (3, mI x3), (4, mI x4), (5, mI x5)]) [0, 1, 2, 3, 4, 5] rfl ?_
    exact hk272 _ _ _ _ _ _ hf
  · have hf := ite_no hc1 hf
    refine r_aload_n X 0 dX12_grows_199 rfl rfl ?_
    refine r_getR X fl_12_55 k_M_0_22 dX12_grows_200 ?_
    refine r_iload X 6 dX12_grows_203 rfl ?_
    obtain ⟨hg2, hf⟩ := gd_some hf
    refine r_zald X a_M_13 hg2 dX12_grows_205 ?_
    refine r_if_ne (tgt := 266) X dX12_grows_206 (by decide) (fun hc3 => ?_) (fun hc3 => ?_)
    · have hf := ite_yes hc3 hf
      refine r_aload_n X 0 dX12_grows_209 rfl rfl ?_
      refine r_getR X fl_12_46 k_M_0_19 dX12_grows_210 ?_
      refine r_iload X 6 dX12_grows_213 rfl ?_
      refine r_iload X 5 dX12_grows_215 rfl ?_
      obtain ⟨q4, hq4, hf⟩ := bd_some hf
      refine r_callSI X (As := [mI x6, mI x5]) (st := [.ref (ad 10)]) (as := fun ad => [mI x6, mI x5]) (c_M_at hq4) rfl yw_X12_at ys_X12_at ml_RX12_225 ⟨rfl, rfl⟩ ⟨Nat.le_of_ble_eq_true rfl, Nat.le_of_ble_eq_true rfl⟩ rfl rfl (Nat.le_of_ble_eq_true rfl) dX12_grows_217 ?_
      obtain ⟨hg5, hf⟩ := gd_some hf
      refine r_zald X a_M_10 hg5 dX12_grows_220 ?_
      refine r_if_eq (tgt := 266) X dX12_grows_221 (by decide) (fun hc6 => ?_) (fun hc6 => ?_)
      · have hf := ite_yes hc6 hf
        refine r_iinc (lv2 := [(6, mI (x6 + 1)), (0, .ref (ad 0)), (1, mI x1), (2, mI x2), (3, mI x3), (4, mI x4), (5, mI x5)]) X 6 dX12_grows_266 rfl (by decide) rfl ?_
        refine r_goto (tgt := 190) X dX12_grows_269 (by decide) ?_
        refine r_perm (lv2 := [(0, .ref (ad 0)), (1, mI x1), (2, mI x2), (3, mI x3), (4, mI x4), (5, mI x5), (6, mI (x6 + 1))]) [1, 2, 3, 4, 5, 6, 0] rfl ?_
        exact hkc _ _ _ _ _ _ _ hf
      · have hf := ite_no hc6 hf
        refine r_aload_n X 0 dX12_grows_224 rfl rfl ?_
        refine r_iload X 6 dX12_grows_225 rfl ?_
        refine r_iload X 5 dX12_grows_227 rfl ?_
        obtain ⟨q7, hq7, hf⟩ := bd_some hf
        refine r_callVI X (As := [mI x6, mI x5]) (st := []) (as := fun ad => [.ref (ad 0), mI x6, mI x5]) (c_M_isFree hq7) rfl yw_X12_isFree yv_X12_isFree ml_RX12_232 o_M_0 rfl rfl ⟨rfl, rfl⟩ ⟨Nat.le_of_ble_eq_true rfl, Nat.le_of_ble_eq_true rfl⟩ rfl rfl (Nat.le_of_ble_eq_true rfl) dX12_grows_229 ?_
        refine r_if_ne (tgt := 238) X dX12_grows_232 (by decide) (fun hc8 => ?_) (fun hc8 => ?_)
        · have hf := ite_yes hc8 hf
          refine r_goto (tgt := 266) X dX12_grows_235 (by decide) ?_
          refine r_iinc (lv2 := [(6, mI (x6 + 1)), (0, .ref (ad 0)), (1, mI x1), (2, mI x2), (3, mI x3), (4, mI x4), (5, mI x5)]) X 6 dX12_grows_266 rfl (by decide) rfl ?_
          refine r_goto (tgt := 190) X dX12_grows_269 (by decide) ?_
          refine r_perm (lv2 := [(0, .ref (ad 0)), (1, mI x1), (2, mI x2), (3, mI x3), (4, mI x4), (5, mI x5), (6, mI (x6 + 1))]) [1, 2, 3, 4, 5, 6, 0] rfl ?_
          exact hkc _ _ _ _ _ _ _ hf
        · have hf := ite_no hc8 hf
          refine r_aload_n X 0 dX12_grows_238 rfl rfl ?_
          refine r_getR X fl_12_55 k_M_0_22 dX12_grows_239 ?_
          refine r_iload X 6 dX12_grows_242 rfl ?_
          refine r_iconst X dX12_grows_244 ?_
          obtain ⟨hg9, hf⟩ := gd_some hf
          refine r_zast X a_M_13 hg9 dX12_grows_245 ?_
          refine r_aload_n X 0 dX12_grows_246 rfl rfl ?_
          refine r_getR X fl_12_73 k_M_0_28 dX12_grows_247 ?_
          refine r_iload X 6 dX12_grows_250 rfl ?_
          refine r_iload X 5 dX12_grows_252 rfl ?_
          obtain ⟨hg11, hf⟩ := gd_some hf
          refine r_iast X a_M_19 hg11 dX12_grows_254 ?_
          refine r_aload_n X 0 dX12_grows_255 rfl rfl ?_
          refine r_getR X fl_12_70 k_M_0_27 dX12_grows_256 ?_
          refine r_iload_n X 2 dX12_grows_259 rfl rfl ?_
          refine r_iload X 6 dX12_grows_260 rfl ?_
          obtain ⟨hg13, hf⟩ := gd_some hf
          refine r_iast X a_M_18 hg13 dX12_grows_262 ?_
          refine r_iinc (lv2 := [(2, mI (x2 + 1)), (0, .ref (ad 0)), (1, mI x1), (3, mI x3), (4, mI x4), (5, mI x5), (6, mI x6)]) X 2 dX12_grows_263 rfl (by decide) rfl ?_
          refine r_iinc (lv2 := [(6, mI (x6 + 1)), (2, mI (x2 + 1)), (0, .ref (ad 0)), (1, mI x1), (3, mI x3), (4, mI x4), (5, mI x5)]) X 6 dX12_grows_266 rfl (by decide) rfl ?_
          refine r_goto (tgt := 190) X dX12_grows_269 (by decide) ?_
          refine r_perm (lv2 := [(0, .ref (ad 0)), (1, mI x1), (2, mI (x2 + 1)), (3, mI x3), (4, mI x4), (5, mI x5), (6, mI (x6 + 1))]) [2, 3, 1, 4, 5, 6, 0] rfl ?_
          exact hkc _ _ _ _ _ _ _ hf
    · have hf := ite_no hc3 hf
      refine r_iinc (lv2 := [(6, mI (x6 + 1)), (0, .ref (ad 0)), (1, mI x1), (2, mI x2), (3, mI x3), (4, mI x4), (5, mI x5)]) X 6 dX12_grows_266 rfl (by decide) rfl ?_
      refine r_goto (tgt := 190) X dX12_grows_269 (by decide) ?_
      refine r_perm (lv2 := [(0, .ref (ad 0)), (1, mI x1), (2, mI x2), (3, mI x3), (4, mI x4), (5, mI x5), (6, mI (x6 + 1))]) [1, 2, 3, 4, 5, 6, 0] rfl ?_
      exact hkc _ _ _ _ _ _ _ hf
set_option maxRecDepth 100000 in
set_option maxHeartbeats 4000000 in
theorem l_M_grows_190_ok {p : Program} {l : Launch} {e : Env} {s : State} {m : MethodId} {args : Array Value} {below : List Frame} {meth : Method} {c : Code} {D : va_G} {cy : Nat → ClassId} {ad : Nat → Nat} (X : CX p s m args meth c cX12_grows RX12 7 (some .boolean) D shM cy ad (aw shM ad)) {F : Nat} {k272 : St → Int → Int → Int → Int → Int → Option (Int × St)} {q : Int × St} (hk272 : ∀ sg x1 x2 x3 x4 x5, k272 sg x1 x2 x3 x4 x5 = some q → GG p l e rm_M_grows s m args below meth c (QI D shM cy ad below args s q) D shM cy ad (aw shM ad) 7 272 [(0, .ref (ad 0)), (1, mI x1), (2, mI x2), (3, mI x3), (4, mI x4), (5, mI x5)] [] sg) : ∀ (n : Nat) (sg : St) (x1 x2 x3 x4 x5 x6 : Int), l_M_grows_190  F k272 n sg x1 x2 x3 x4 x5 x6 = some q → GG p l e rm_M_grows s m args below meth c (QI D shM cy ad below args s q) D shM cy ad (aw shM ad) 7 190 [(0, .ref (ad 0)), (1, mI x1), (2, mI x2), (3, mI x3), (4, mI x4), (5, mI x5), (6, mI x6)] [] sg := by
  intro n
  induction n with
  | zero => intro sg x1 x2 x3 x4 x5 x6 h; cases h
  | succ n ih => exact fun sg x1 x2 x3 x4 x5 x6 h => b_M_grows_190_ok X ih hk272 h
set_option maxRecDepth 100000 in
set_option maxHeartbeats 4000000 in
theorem b_M_grows_87_ok {p : Program} {l : Launch} {e : Env} {s : State} {m : MethodId} {args : Array Value} {below : List Frame} {meth : Method} {c : Code} {D : va_G} {cy : Nat → ClassId} {ad : Nat → Nat} (X : CX p s m args meth c cX12_grows RX12 7 (some .boolean) D shM cy ad (aw shM ad)) {F : Nat} {kc : St → Int → Int → Int → Int → Int → Option (Int × St)} {k278 : St → Int → Int → Int → Option (Int × St)} {q : Int × St} (hkc : ∀ sg x1 x2 x3 x4 x5, kc sg x1 x2 x3 x4 x5 = some q → GG p l e rm_M_grows s m args below meth c (QI D shM cy ad below args s q) D shM cy ad (aw shM ad) 7 87 [(0, .ref (ad 0)), (1, mI x1), (2, mI x2), (3, mI x3), (4, mI x4), (5, mI x5)] [] sg) (hk278 : ∀ sg x1 x2 x3, k278 sg x1 x2 x3 = some q → GG p l e rm_M_grows s m args below meth c (QI D shM cy ad below args s q) D shM cy ad (aw shM ad) 7 278 [(0, .ref (ad 0)), (1, mI x1), (2, mI x2), (3, mI x3)] [] sg) {sg : St} {x1 x2 x3 x4 x5 : Int} (hf : b_M_grows_87  F kc k278 sg x1 x2 x3 x4 x5 = some q) : GG p l e rm_M_grows s m args below meth c (QI D shM cy ad below args s q) D shM cy ad (aw shM ad) 7 87 [(0, .ref (ad 0)), (1, mI x1), (2, mI x2), (3, mI x3), (4, mI x4), (5, mI x5)] [] sg := by
  refine r_iload X 5 dX12_grows_87 rfl ?_
  refine r_aload_n X 0 dX12_grows_89 rfl rfl ?_
  refine r_getI X fl_12_208 k_M_0_5 dX12_grows_90 ?_
  refine r_icmp_ge (tgt := 278) X dX12_grows_93 (by decide) (fun hc1 => ?_) (fun hc1 => ?_)
  · have hf := ite_yes hc1 hf
    refine r_perm (lv2 := [(0, .ref (ad 0)), (1, mI x1), (2, mI x2), (3, mI x3)]) [0, 1, 2, 3] rfl ?_
    exact hk278 _ _ _ _ hf
  · have hf := ite_no hc1 hf
    refine r_aload_n X 0 dX12_grows_96 rfl rfl ?_
    refine r_getR X fl_12_52 k_M_0_21 dX12_grows_97 ?_
    refine r_iload X 5 dX12_grows_100 rfl ?_
    obtain ⟨hg2, hf⟩ := gd_some hf
    refine r_zald X a_M_12 hg2 dX12_grows_102 ?_
    refine r_if_ne (tgt := 272) X dX12_grows_103 (by decide) (fun hc3 => ?_) (fun hc3 => ?_)
    · have hf := ite_yes hc3 hf
      refine r_aload_n X 0 dX12_grows_106 rfl rfl ?_
      refine r_iload X 4 dX12_grows_107 rfl ?_
      refine r_iload X 5 dX12_grows_109 rfl ?_
      obtain ⟨q4, hq4, hf⟩ := bd_some hf
      refine r_callVI X (As := [mI x4, mI x5]) (st := []) (as := fun ad => [.ref (ad 0), mI x4, mI x5]) (c_M_isFree hq4) rfl yw_X12_isFree yv_X12_isFree ml_RX12_232 o_M_0 rfl rfl ⟨rfl, rfl⟩ ⟨Nat.le_of_ble_eq_true rfl, Nat.le_of_ble_eq_true rfl⟩ rfl rfl (Nat.le_of_ble_eq_true rfl) dX12_grows_111 ?_
      refine r_if_eq (tgt := 272) X dX12_grows_114 (by decide) (fun hc5 => ?_) (fun hc5 => ?_)
      · have hf := ite_yes hc5 hf
        refine r_iinc (lv2 := [(5, mI (x5 + 1)), (0, .ref (ad 0)), (1, mI x1), (2, mI x2), (3, mI x3), (4, mI x4)]) X 5 dX12_grows_272 rfl (by decide) rfl ?_
        refine r_goto (tgt := 87) X dX12_grows_275 (by decide) ?_
        refine r_perm (lv2 := [(0, .ref (ad 0)), (1, mI x1), (2, mI x2), (3, mI x3), (4, mI x4), (5, mI (x5 + 1))]) [1, 2, 3, 4, 5, 0] rfl ?_
        exact hkc _ _ _ _ _ _ hf
      · have hf := ite_no hc5 hf
        refine r_aload_n X 0 dX12_grows_117 rfl rfl ?_
        refine r_getR X fl_12_46 k_M_0_19 dX12_grows_118 ?_
        refine r_iload X 4 dX12_grows_121 rfl ?_
        refine r_iload X 5 dX12_grows_123 rfl ?_
        obtain ⟨q6, hq6, hf⟩ := bd_some hf
        refine r_callSI X (As := [mI x4, mI x5]) (st := [.ref (ad 10)]) (as := fun ad => [mI x4, mI x5]) (c_M_at hq6) rfl yw_X12_at ys_X12_at ml_RX12_225 ⟨rfl, rfl⟩ ⟨Nat.le_of_ble_eq_true rfl, Nat.le_of_ble_eq_true rfl⟩ rfl rfl (Nat.le_of_ble_eq_true rfl) dX12_grows_125 ?_
        obtain ⟨hg7, hf⟩ := gd_some hf
        refine r_zald X a_M_10 hg7 dX12_grows_128 ?_
        refine r_if_eq (tgt := 135) X dX12_grows_129 (by decide) (fun hc8 => ?_) (fun hc8 => ?_)
        · have hf := ite_yes hc8 hf
          refine r_aload_n X 0 dX12_grows_135 rfl rfl ?_
          refine r_getR X fl_12_52 k_M_0_21 dX12_grows_136 ?_
          refine r_iload X 5 dX12_grows_139 rfl ?_
          refine r_iconst X dX12_grows_141 ?_
          obtain ⟨hg9, hf⟩ := gd_some hf
          refine r_zast X a_M_12 hg9 dX12_grows_142 ?_
          refine r_aload_n X 0 dX12_grows_143 rfl rfl ?_
          refine r_getR X fl_12_67 k_M_0_26 dX12_grows_144 ?_
          refine r_iload X 5 dX12_grows_147 rfl ?_
          refine r_iload X 4 dX12_grows_149 rfl ?_
          obtain ⟨hg11, hf⟩ := gd_some hf
          refine r_iast X a_M_17 hg11 dX12_grows_151 ?_
          refine r_aload_n X 0 dX12_grows_152 rfl rfl ?_
          refine r_getR X fl_12_64 k_M_0_25 dX12_grows_153 ?_
          refine r_iload X 5 dX12_grows_156 rfl ?_
          obtain ⟨hg13, hf⟩ := gd_some hf
          refine r_iald X a_M_16 hg13 dX12_grows_158 ?_
          refine r_aload_n X 0 dX12_grows_159 rfl rfl ?_
          refine r_getR X fl_12_36 k_M_0_13 dX12_grows_160 ?_
          refine r_iload X 5 dX12_grows_163 rfl ?_
          obtain ⟨hg14, hf⟩ := gd_some hf
          refine r_iald X a_M_7 hg14 dX12_grows_165 ?_
          refine r_icmp_ge (tgt := 187) X dX12_grows_166 (by decide) (fun hc15 => ?_) (fun hc15 => ?_)
          · have hf := ite_yes hc15 hf
            refine r_iconst X dX12_grows_187 ?_
            refine r_istore (lv2 := [(6, mI 0), (0, .ref (ad 0)), (1, mI x1), (2, mI x2), (3, mI x3), (4, mI x4), (5, mI x5)]) X dX12_grows_188 (by decide) rfl ?_
            refine r_perm (lv2 := [(0, .ref (ad 0)), (1, mI x1), (2, mI x2), (3, mI x3), (4, mI x4), (5, mI x5), (6, mI 0)]) [1, 2, 3, 4, 5, 6, 0] rfl ?_
            refine l_M_grows_190_ok X ?_ F _ _ _ _ _ _ _ hf
            · intro s20 x1_21 x2_22 x3_23 x4_24 x5_25 hf
              refine r_iinc (lv2 := [(5, mI (x5_25 + 1)), (0, .ref (ad 0)), (1, mI x1_21), (2, mI x2_22), (3, mI x3_23), (4, mI x4_24)]) X 5 dX12_grows_272 rfl (by decide) rfl ?_
              refine r_goto (tgt := 87) X dX12_grows_275 (by decide) ?_
              refine r_perm (lv2 := [(0, .ref (ad 0)), (1, mI x1_21), (2, mI x2_22), (3, mI x3_23), (4, mI x4_24), (5, mI (x5_25 + 1))]) [1, 2, 3, 4, 5, 0] rfl ?_
              exact hkc _ _ _ _ _ _ hf
          · have hf := ite_no hc15 hf
            refine r_aload_n X 0 dX12_grows_169 rfl rfl ?_
            refine r_iload X 5 dX12_grows_170 rfl ?_
            obtain ⟨q16, hq16, hf⟩ := bd_some hf
            refine r_callVV X (As := [mI x5]) (st := []) (as := fun ad => [.ref (ad 0), mI x5]) (c_M_turns hq16) rfl yw_X12_turns yv_X12_turns ml_RX12_235 o_M_0 rfl rfl ⟨rfl, rfl⟩ ⟨Nat.le_of_ble_eq_true rfl, Nat.le_of_ble_eq_true rfl⟩ rfl rfl (Nat.le_of_ble_eq_true rfl) dX12_grows_172 ?_
            refine r_aload_n X 0 dX12_grows_175 rfl rfl ?_
            refine r_getR X fl_12_61 k_M_0_24 dX12_grows_176 ?_
            refine r_iload_n X 1 dX12_grows_179 rfl rfl ?_
            refine r_dup2 X dX12_grows_180 rfl rfl ?_
            obtain ⟨hg17, hf⟩ := gd_some hf
            refine r_iald X a_M_15 hg17 dX12_grows_181 ?_
            refine r_iconst X dX12_grows_182 ?_
            refine r_iadd X dX12_grows_183 ?_
            obtain ⟨hg18, hf⟩ := gd_some hf
            refine r_iast X a_M_15 hg18 dX12_grows_184 ?_
            refine r_iconst X dX12_grows_185 ?_
            exact r_zreturn X hf rfl dX12_grows_186
        · have hf := ite_no hc8 hf
          refine r_goto (tgt := 272) X dX12_grows_132 (by decide) ?_
          refine r_iinc (lv2 := [(5, mI (x5 + 1)), (0, .ref (ad 0)), (1, mI x1), (2, mI x2), (3, mI x3), (4, mI x4)]) X 5 dX12_grows_272 rfl (by decide) rfl ?_
          refine r_goto (tgt := 87) X dX12_grows_275 (by decide) ?_
          refine r_perm (lv2 := [(0, .ref (ad 0)), (1, mI x1), (2, mI x2), (3, mI x3), (4, mI x4), (5, mI (x5 + 1))]) [1, 2, 3, 4, 5, 0] rfl ?_
          exact hkc _ _ _ _ _ _ hf
    · have hf := ite_no hc3 hf
      refine r_iinc (lv2 := [(5, mI (x5 + 1)), (0, .ref (ad 0)), (1, mI x1), (2, mI x2), (3, mI x3), (4, mI x4)]) X 5 dX12_grows_272 rfl (by decide) rfl ?_
      refine r_goto (tgt := 87) X dX12_grows_275 (by decide) ?_
      refine r_perm (lv2 := [(0, .ref (ad 0)), (1, mI x1), (2, mI x2), (3, mI x3), (4, mI x4), (5, mI (x5 + 1))]) [1, 2, 3, 4, 5, 0] rfl ?_
      exact hkc _ _ _ _ _ _ hf
set_option maxRecDepth 100000 in
set_option maxHeartbeats 4000000 in
theorem l_M_grows_87_ok {p : Program} {l : Launch} {e : Env} {s : State} {m : MethodId} {args : Array Value} {below : List Frame} {meth : Method} {c : Code} {D : va_G} {cy : Nat → ClassId} {ad : Nat → Nat} (X : CX p s m args meth c cX12_grows RX12 7 (some .boolean) D shM cy ad (aw shM ad)) {F : Nat} {k278 : St → Int → Int → Int → Option (Int × St)} {q : Int × St} (hk278 : ∀ sg x1 x2 x3, k278 sg x1 x2 x3 = some q → GG p l e rm_M_grows s m args below meth c (QI D shM cy ad below args s q) D shM cy ad (aw shM ad) 7 278 [(0, .ref (ad 0)), (1, mI x1), (2, mI x2), (3, mI x3)] [] sg) : ∀ (n : Nat) (sg : St) (x1 x2 x3 x4 x5 : Int), l_M_grows_87  F k278 n sg x1 x2 x3 x4 x5 = some q → GG p l e rm_M_grows s m args below meth c (QI D shM cy ad below args s q) D shM cy ad (aw shM ad) 7 87 [(0, .ref (ad 0)), (1, mI x1), (2, mI x2), (3, mI x3), (4, mI x4), (5, mI x5)] [] sg := by
  intro n
  induction n with
  | zero => intro sg x1 x2 x3 x4 x5 h; cases h
  | succ n ih => exact fun sg x1 x2 x3 x4 x5 h => b_M_grows_87_ok X ih hk278 h
set_option maxRecDepth 100000 in
set_option maxHeartbeats 4000000 in
theorem b_M_grows_71_ok {p : Program} {l : Launch} {e : Env} {s : State} {m : MethodId} {args : Array Value} {below : List Frame} {meth : Method} {c : Code} {D : va_G} {cy : Nat → ClassId} {ad : Nat → Nat} (X : CX p s m args meth c cX12_grows RX12 7 (some .boolean) D shM cy ad (aw shM ad)) {F : Nat} {kc : St → Int → Int → Int → Option (Int × St)} {k284 : St → Option (Int × St)} {q : Int × St} (hkc : ∀ sg x1 x2 x3, kc sg x1 x2 x3 = some q → GG p l e rm_M_grows s m args below meth c (QI D shM cy ad below args s q) D shM cy ad (aw shM ad) 7 71 [(0, .ref (ad 0)), (1, mI x1), (2, mI x2), (3, mI x3)] [] sg) (hk284 : ∀ sg , k284 sg  = some q → GG p l e rm_M_grows s m args below meth c (QI D shM cy ad below args s q) D shM cy ad (aw shM ad) 7 284 [] [] sg) {sg : St} {x1 x2 x3 : Int} (hf : b_M_grows_71  F kc k284 sg x1 x2 x3 = some q) : GG p l e rm_M_grows s m args below meth c (QI D shM cy ad below args s q) D shM cy ad (aw shM ad) 7 71 [(0, .ref (ad 0)), (1, mI x1), (2, mI x2), (3, mI x3)] [] sg := by
  refine r_iload_n X 3 dX12_grows_71 rfl rfl ?_
  refine r_iload_n X 2 dX12_grows_72 rfl rfl ?_
  refine r_icmp_ge (tgt := 284) X dX12_grows_73 (by decide) (fun hc1 => ?_) (fun hc1 => ?_)
  · have hf := ite_yes hc1 hf
    refine r_perm (lv2 := []) [] rfl ?_
    exact hk284 _ hf
  · have hf := ite_no hc1 hf
    refine r_aload_n X 0 dX12_grows_76 rfl rfl ?_
    refine r_getR X fl_12_70 k_M_0_27 dX12_grows_77 ?_
    refine r_iload_n X 3 dX12_grows_80 rfl rfl ?_
    obtain ⟨hg2, hf⟩ := gd_some hf
    refine r_iald X a_M_18 hg2 dX12_grows_81 ?_
    refine r_istore (lv2 := [(4, mI (sg 18 (ix x3))), (0, .ref (ad 0)), (1, mI x1), (2, mI x2), (3, mI x3)]) X dX12_grows_82 (by decide) rfl ?_
    refine r_iconst X dX12_grows_84 ?_
    refine r_istore (lv2 := [(5, mI 0), (4, mI (sg 18 (ix x3))), (0, .ref (ad 0)), (1, mI x1), (2, mI x2), (3, mI x3)]) X dX12_grows_85 (by decide) rfl ?_
    refine r_perm (lv2 := [(0, .ref (ad 0)), (1, mI x1), (2, mI x2), (3, mI x3), (4, mI (sg 18 (ix x3))), (5, mI 0)]) [2, 3, 4, 5, 1, 0] rfl ?_
    refine l_M_grows_87_ok X ?_ F _ _ _ _ _ _ hf
    · intro s3 x1_4 x2_5 x3_6 hf
      refine r_iinc (lv2 := [(3, mI (x3_6 + 1)), (0, .ref (ad 0)), (1, mI x1_4), (2, mI x2_5)]) X 3 dX12_grows_278 rfl (by decide) rfl ?_
      refine r_goto (tgt := 71) X dX12_grows_281 (by decide) ?_
      refine r_perm (lv2 := [(0, .ref (ad 0)), (1, mI x1_4), (2, mI x2_5), (3, mI (x3_6 + 1))]) [1, 2, 3, 0] rfl ?_
      exact hkc _ _ _ _ hf
set_option maxRecDepth 100000 in
set_option maxHeartbeats 4000000 in
theorem l_M_grows_71_ok {p : Program} {l : Launch} {e : Env} {s : State} {m : MethodId} {args : Array Value} {below : List Frame} {meth : Method} {c : Code} {D : va_G} {cy : Nat → ClassId} {ad : Nat → Nat} (X : CX p s m args meth c cX12_grows RX12 7 (some .boolean) D shM cy ad (aw shM ad)) {F : Nat} {k284 : St → Option (Int × St)} {q : Int × St} (hk284 : ∀ sg , k284 sg  = some q → GG p l e rm_M_grows s m args below meth c (QI D shM cy ad below args s q) D shM cy ad (aw shM ad) 7 284 [] [] sg) : ∀ (n : Nat) (sg : St) (x1 x2 x3 : Int), l_M_grows_71  F k284 n sg x1 x2 x3 = some q → GG p l e rm_M_grows s m args below meth c (QI D shM cy ad below args s q) D shM cy ad (aw shM ad) 7 71 [(0, .ref (ad 0)), (1, mI x1), (2, mI x2), (3, mI x3)] [] sg := by
  intro n
  induction n with
  | zero => intro sg x1 x2 x3 h; cases h
  | succ n ih => exact fun sg x1 x2 x3 h => b_M_grows_71_ok X ih hk284 h
set_option maxRecDepth 100000 in
set_option maxHeartbeats 4000000 in
theorem b_M_grows_25_ok {p : Program} {l : Launch} {e : Env} {s : State} {m : MethodId} {args : Array Value} {below : List Frame} {meth : Method} {c : Code} {D : va_G} {cy : Nat → ClassId} {ad : Nat → Nat} (X : CX p s m args meth c cX12_grows RX12 7 (some .boolean) D shM cy ad (aw shM ad)) {F : Nat} {kc : St → Int → Int → Option (Int × St)} {k46 : St → Int → Option (Int × St)} {q : Int × St} (hkc : ∀ sg x1 x2, kc sg x1 x2 = some q → GG p l e rm_M_grows s m args below meth c (QI D shM cy ad below args s q) D shM cy ad (aw shM ad) 7 25 [(0, .ref (ad 0)), (1, mI x1), (2, mI x2)] [] sg) (hk46 : ∀ sg x1, k46 sg x1 = some q → GG p l e rm_M_grows s m args below meth c (QI D shM cy ad below args s q) D shM cy ad (aw shM ad) 7 46 [(0, .ref (ad 0)), (1, mI x1)] [] sg) {sg : St} {x1 x2 : Int} (hf : b_M_grows_25  F kc k46 sg x1 x2 = some q) : GG p l e rm_M_grows s m args below meth c (QI D shM cy ad below args s q) D shM cy ad (aw shM ad) 7 25 [(0, .ref (ad 0)), (1, mI x1), (2, mI x2)] [] sg := by
  refine r_iload_n X 2 dX12_grows_25 rfl rfl ?_
  refine r_aload_n X 0 dX12_grows_26 rfl rfl ?_
  refine r_getI X fl_12_205 k_M_0_4 dX12_grows_27 ?_
  refine r_icmp_ge (tgt := 46) X dX12_grows_30 (by decide) (fun hc1 => ?_) (fun hc1 => ?_)
  · have hf := ite_yes hc1 hf
    refine r_perm (lv2 := [(0, .ref (ad 0)), (1, mI x1)]) [0, 1] rfl ?_
    exact hk46 _ _ hf
  · have hf := ite_no hc1 hf
    refine r_aload_n X 0 dX12_grows_33 rfl rfl ?_
    refine r_getR X fl_12_55 k_M_0_22 dX12_grows_34 ?_
    refine r_iload_n X 2 dX12_grows_37 rfl rfl ?_
    refine r_iconst X dX12_grows_38 ?_
    obtain ⟨hg2, hf⟩ := gd_some hf
    refine r_zast X a_M_13 hg2 dX12_grows_39 ?_
    refine r_iinc (lv2 := [(2, mI (x2 + 1)), (0, .ref (ad 0)), (1, mI x1)]) X 2 dX12_grows_40 rfl (by decide) rfl ?_
    refine r_goto (tgt := 25) X dX12_grows_43 (by decide) ?_
    refine r_perm (lv2 := [(0, .ref (ad 0)), (1, mI x1), (2, mI (x2 + 1))]) [1, 2, 0] rfl ?_
    exact hkc _ _ _ hf
set_option maxRecDepth 100000 in
set_option maxHeartbeats 4000000 in
theorem l_M_grows_25_ok {p : Program} {l : Launch} {e : Env} {s : State} {m : MethodId} {args : Array Value} {below : List Frame} {meth : Method} {c : Code} {D : va_G} {cy : Nat → ClassId} {ad : Nat → Nat} (X : CX p s m args meth c cX12_grows RX12 7 (some .boolean) D shM cy ad (aw shM ad)) {F : Nat} {k46 : St → Int → Option (Int × St)} {q : Int × St} (hk46 : ∀ sg x1, k46 sg x1 = some q → GG p l e rm_M_grows s m args below meth c (QI D shM cy ad below args s q) D shM cy ad (aw shM ad) 7 46 [(0, .ref (ad 0)), (1, mI x1)] [] sg) : ∀ (n : Nat) (sg : St) (x1 x2 : Int), l_M_grows_25  F k46 n sg x1 x2 = some q → GG p l e rm_M_grows s m args below meth c (QI D shM cy ad below args s q) D shM cy ad (aw shM ad) 7 25 [(0, .ref (ad 0)), (1, mI x1), (2, mI x2)] [] sg := by
  intro n
  induction n with
  | zero => intro sg x1 x2 h; cases h
  | succ n ih => exact fun sg x1 x2 h => b_M_grows_25_ok X ih hk46 h
set_option maxRecDepth 100000 in
set_option maxHeartbeats 4000000 in
theorem b_M_grows_2_ok {p : Program} {l : Launch} {e : Env} {s : State} {m : MethodId} {args : Array Value} {below : List Frame} {meth : Method} {c : Code} {D : va_G} {cy : Nat → ClassId} {ad : Nat → Nat} (X : CX p s m args meth c cX12_grows RX12 7 (some .boolean) D shM cy ad (aw shM ad)) {F : Nat} {kc : St → Int → Int → Option (Int × St)} {k23 : St → Int → Option (Int × St)} {q : Int × St} (hkc : ∀ sg x1 x2, kc sg x1 x2 = some q → GG p l e rm_M_grows s m args below meth c (QI D shM cy ad below args s q) D shM cy ad (aw shM ad) 7 2 [(0, .ref (ad 0)), (1, mI x1), (2, mI x2)] [] sg) (hk23 : ∀ sg x1, k23 sg x1 = some q → GG p l e rm_M_grows s m args below meth c (QI D shM cy ad below args s q) D shM cy ad (aw shM ad) 7 23 [(0, .ref (ad 0)), (1, mI x1)] [] sg) {sg : St} {x1 x2 : Int} (hf : b_M_grows_2  F kc k23 sg x1 x2 = some q) : GG p l e rm_M_grows s m args below meth c (QI D shM cy ad below args s q) D shM cy ad (aw shM ad) 7 2 [(0, .ref (ad 0)), (1, mI x1), (2, mI x2)] [] sg := by
  refine r_iload_n X 2 dX12_grows_2 rfl rfl ?_
  refine r_aload_n X 0 dX12_grows_3 rfl rfl ?_
  refine r_getI X fl_12_208 k_M_0_5 dX12_grows_4 ?_
  refine r_icmp_ge (tgt := 23) X dX12_grows_7 (by decide) (fun hc1 => ?_) (fun hc1 => ?_)
  · have hf := ite_yes hc1 hf
    refine r_perm (lv2 := [(0, .ref (ad 0)), (1, mI x1)]) [0, 1] rfl ?_
    exact hk23 _ _ hf
  · have hf := ite_no hc1 hf
    refine r_aload_n X 0 dX12_grows_10 rfl rfl ?_
    refine r_getR X fl_12_52 k_M_0_21 dX12_grows_11 ?_
    refine r_iload_n X 2 dX12_grows_14 rfl rfl ?_
    refine r_iconst X dX12_grows_15 ?_
    obtain ⟨hg2, hf⟩ := gd_some hf
    refine r_zast X a_M_12 hg2 dX12_grows_16 ?_
    refine r_iinc (lv2 := [(2, mI (x2 + 1)), (0, .ref (ad 0)), (1, mI x1)]) X 2 dX12_grows_17 rfl (by decide) rfl ?_
    refine r_goto (tgt := 2) X dX12_grows_20 (by decide) ?_
    refine r_perm (lv2 := [(0, .ref (ad 0)), (1, mI x1), (2, mI (x2 + 1))]) [1, 2, 0] rfl ?_
    exact hkc _ _ _ hf
set_option maxRecDepth 100000 in
set_option maxHeartbeats 4000000 in
theorem l_M_grows_2_ok {p : Program} {l : Launch} {e : Env} {s : State} {m : MethodId} {args : Array Value} {below : List Frame} {meth : Method} {c : Code} {D : va_G} {cy : Nat → ClassId} {ad : Nat → Nat} (X : CX p s m args meth c cX12_grows RX12 7 (some .boolean) D shM cy ad (aw shM ad)) {F : Nat} {k23 : St → Int → Option (Int × St)} {q : Int × St} (hk23 : ∀ sg x1, k23 sg x1 = some q → GG p l e rm_M_grows s m args below meth c (QI D shM cy ad below args s q) D shM cy ad (aw shM ad) 7 23 [(0, .ref (ad 0)), (1, mI x1)] [] sg) : ∀ (n : Nat) (sg : St) (x1 x2 : Int), l_M_grows_2  F k23 n sg x1 x2 = some q → GG p l e rm_M_grows s m args below meth c (QI D shM cy ad below args s q) D shM cy ad (aw shM ad) 7 2 [(0, .ref (ad 0)), (1, mI x1), (2, mI x2)] [] sg := by
  intro n
  induction n with
  | zero => intro sg x1 x2 h; cases h
  | succ n ih => exact fun sg x1 x2 h => b_M_grows_2_ok X ih hk23 h
set_option maxRecDepth 100000 in
set_option maxHeartbeats 4000000 in
theorem c_M_grows {l : Launch} {F : Nat} {sg : St} {x1 : Int} {q : Int × St} (hf : f_M_grows F  sg x1 = some q) : MI l shM yX12_grows cX12_grows 7 (some .boolean) rm_M_grows (fun ad => [.ref (ad 0), mI x1]) sg q.2 q.1 := by
  refine mk_i (by decide) (fun _ => Nat.le_of_ble_eq_true rfl) (fun p e s m args below meth c D cy ad X => ?_)
  have X : CX p s m args meth c cX12_grows RX12 7 (some .boolean) D shM cy ad (aw shM ad) := X
  refine r_perm (lv2 := [(0, .ref (ad 0)), (1, mI x1)]) [0, 1] rfl ?_
  refine r_iconst X dX12_grows_0 ?_
  refine r_istore_n (lv2 := [(2, mI 0), (0, .ref (ad 0)), (1, mI x1)]) X dX12_grows_1 rfl (by decide) rfl ?_
  refine r_perm (lv2 := [(0, .ref (ad 0)), (1, mI x1), (2, mI 0)]) [1, 2, 0] rfl ?_
  refine l_M_grows_2_ok X ?_ F _ _ _ hf
  · intro s1 x1_2 hf
    refine r_iconst X dX12_grows_23 ?_
    refine r_istore_n (lv2 := [(2, mI 0), (0, .ref (ad 0)), (1, mI x1_2)]) X dX12_grows_24 rfl (by decide) rfl ?_
    refine r_perm (lv2 := [(0, .ref (ad 0)), (1, mI x1_2), (2, mI 0)]) [1, 2, 0] rfl ?_
    refine l_M_grows_25_ok X ?_ F _ _ _ hf
    · intro s3 x1_4 hf
      refine r_iconst X dX12_grows_46 ?_
      refine r_istore_n (lv2 := [(2, mI 1), (0, .ref (ad 0)), (1, mI x1_4)]) X dX12_grows_47 rfl (by decide) rfl ?_
      refine r_aload_n X 1 dX12_grows_48 rfl rfl ?_
      refine r_getR X fl_12_70 k_M_0_27 dX12_grows_49 ?_
      refine r_iconst X dX12_grows_52 ?_
      refine r_iload_n X 2 dX12_grows_53 rfl rfl ?_
      obtain ⟨hg5, hf⟩ := gd_some hf
      refine r_iast X a_M_18 hg5 dX12_grows_54 ?_
      refine r_aload_n X 1 dX12_grows_55 rfl rfl ?_
      refine r_getR X fl_12_55 k_M_0_22 dX12_grows_56 ?_
      refine r_iload_n X 2 dX12_grows_59 rfl rfl ?_
      refine r_iconst X dX12_grows_60 ?_
      obtain ⟨hg7, hf⟩ := gd_some hf
      refine r_zast X a_M_13 hg7 dX12_grows_61 ?_
      refine r_aload_n X 1 dX12_grows_62 rfl rfl ?_
      refine r_getR X fl_12_73 k_M_0_28 dX12_grows_63 ?_
      refine r_iload_n X 2 dX12_grows_66 rfl rfl ?_
      refine r_iconst X dX12_grows_67 ?_
      obtain ⟨hg9, hf⟩ := gd_some hf
      refine r_iast X a_M_19 hg9 dX12_grows_68 ?_
      refine r_iconst X dX12_grows_69 ?_
      refine r_istore_n (lv2 := [(3, mI 0), (2, mI 1), (0, .ref (ad 0)), (1, mI x1_4)]) X dX12_grows_70 rfl (by decide) rfl ?_
      refine r_perm (lv2 := [(0, .ref (ad 0)), (1, mI x1_4), (2, mI 1), (3, mI 0)]) [2, 3, 1, 0] rfl ?_
      refine l_M_grows_71_ok X ?_ F _ _ _ _ hf
      · intro s11  hf
        refine r_iconst X dX12_grows_284 ?_
        exact r_zreturn X hf rfl dX12_grows_285
