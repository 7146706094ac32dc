def sM0 : St := fun c j => if c = 0 then (if j = 3 then 1 else (if j = 6 then 2 else (if j = 47 then (-1) else (if j = 48 then (-1) else 0)))) else 0
def fsM0 : List Value := [mI 0, mI 0, mL 0, mL 0, mI 0, mI 0, mI 0, .null, .null, .null, .null, .null, .null, .null, .null, mI 0, mI 0, mI 0, .null, .null, .null, .null, .null, .null, .null, .null, .null, .null, .null, mI 0, .null, .null, .null, .null, .null, .null, .null, .null, .null, mI 0, .null, .null, .null, mL 0, .null, mI 0, mI 0, mI 0, mI 0, mI 0, mI 0, mI 0, mI 0, .null, .null, .null, .null, .null, .null, .null, .null, .null, .null, .null, .null, .null, .null, .null, .null, .null, mI 0, mI 0, .null, .null, .null, .null, .null, .null, .null, mL 0, mL 0, mI 0, mI 0, mI 0, mI 0, mL 0]
def wlM (cy : Nat → ClassId) (h0 : Nat) (u : Nat → Nat) : va_W := wd shM cy (fun c => if c = 0 then h0 else u c) sM0
def rm_M_init : Room := { frames := 1, cells := 56, slots := 3091, locals := 12 }
set_option maxRecDepth 100000 in
set_option maxHeartbeats 2000000 in
theorem c_M_init {l : Launch} : MC l yX12_init cX12_init 1 rm_M_init 12 fsM0 wlM := by
  refine mk_c (by decide) rfl (by decide) (fun p e s m args below meth c D cy h0 X => ?_)
  have hlen : fsM0.length = 86 := rfl
  have X : CC p s m args meth c cX12_init RX12 1 D cy (va_A [(h0, .inr (12, fsM0))] s.heap.size) := X
  refine n_aload_n X 0 dX12_init_0 rfl rfl ?_
  refine n_objInit X oi_12 oi_i oi_c (Nat.le_of_ble_eq_true rfl) (Nat.le_of_ble_eq_true rfl) dX12_init_1 ?_
  refine n_aload_n X 0 dX12_init_4 rfl rfl ?_
  refine n_lconst (v := 1) X dX12_init_5 (by decide) ?_
  refine n_put X fp_12_7 rfl rfl hlen (by decide) dX12_init_6 (fun hlen => ?_)
  refine n_aload_n X 0 dX12_init_9 rfl rfl ?_
  refine n_iconst X dX12_init_10 ?_
  refine n_put X fp_12_13 rfl rfl hlen (by decide) dX12_init_11 (fun hlen => ?_)
  refine n_aload_n X 0 dX12_init_14 rfl rfl ?_
  refine n_bipush X dX12_init_15 (by decide) ?_
  refine n_newaI (N := 24) (ce := 0) (sl := 0) X ac_I (by decide) (by decide) (by decide) (Nat.le_of_ble_eq_true rfl) (Nat.le_of_ble_eq_true rfl) dX12_init_17 (fun q1 => ?_)
  refine n_putF X ff_12_17 rfl rfl hlen (by decide) dX12_init_19 (fun hlen => ?_)
  refine n_aload_n X 0 dX12_init_22 rfl rfl ?_
  refine n_bipush X dX12_init_23 (by decide) ?_
  refine n_newaI (N := 24) (ce := 1) (sl := 24) X ac_I (by decide) (by decide) (by decide) (Nat.le_of_ble_eq_true rfl) (Nat.le_of_ble_eq_true rfl) dX12_init_25 (fun q2 => ?_)
  refine n_putF X ff_12_21 rfl rfl hlen (by decide) dX12_init_27 (fun hlen => ?_)
  refine n_aload_n X 0 dX12_init_30 rfl rfl ?_
  refine n_bipush X dX12_init_31 (by decide) ?_
  refine n_newaI (N := 24) (ce := 2) (sl := 48) X ac_I (by decide) (by decide) (by decide) (Nat.le_of_ble_eq_true rfl) (Nat.le_of_ble_eq_true rfl) dX12_init_33 (fun q3 => ?_)
  refine n_putF X ff_12_24 rfl rfl hlen (by decide) dX12_init_35 (fun hlen => ?_)
  refine n_aload_n X 0 dX12_init_38 rfl rfl ?_
  refine n_bipush X dX12_init_39 (by decide) ?_
  refine n_newaI (N := 24) (ce := 3) (sl := 72) X ac_I (by decide) (by decide) (by decide) (Nat.le_of_ble_eq_true rfl) (Nat.le_of_ble_eq_true rfl) dX12_init_41 (fun q4 => ?_)
  refine n_putF X ff_12_27 rfl rfl hlen (by decide) dX12_init_43 (fun hlen => ?_)
  refine n_aload_n X 0 dX12_init_46 rfl rfl ?_
  refine n_bipush X dX12_init_47 (by decide) ?_
  refine n_newaI (N := 12) (ce := 4) (sl := 96) X ac_I (by decide) (by decide) (by decide) (Nat.le_of_ble_eq_true rfl) (Nat.le_of_ble_eq_true rfl) dX12_init_49 (fun q5 => ?_)
  refine n_putF X ff_12_30 rfl rfl hlen (by decide) dX12_init_51 (fun hlen => ?_)
  refine n_aload_n X 0 dX12_init_54 rfl rfl ?_
  refine n_bipush X dX12_init_55 (by decide) ?_
  refine n_newaI (N := 12) (ce := 5) (sl := 108) X ac_I (by decide) (by decide) (by decide) (Nat.le_of_ble_eq_true rfl) (Nat.le_of_ble_eq_true rfl) dX12_init_57 (fun q6 => ?_)
  refine n_putF X ff_12_33 rfl rfl hlen (by decide) dX12_init_59 (fun hlen => ?_)
  refine n_aload_n X 0 dX12_init_62 rfl rfl ?_
  refine n_bipush X dX12_init_63 (by decide) ?_
  refine n_newaI (N := 12) (ce := 6) (sl := 120) X ac_I (by decide) (by decide) (by decide) (Nat.le_of_ble_eq_true rfl) (Nat.le_of_ble_eq_true rfl) dX12_init_65 (fun q7 => ?_)
  refine n_putF X ff_12_36 rfl rfl hlen (by decide) dX12_init_67 (fun hlen => ?_)
  refine n_aload_n X 0 dX12_init_70 rfl rfl ?_
  refine n_bipush X dX12_init_71 (by decide) ?_
  refine n_newaZ (N := 24) (ce := 7) (sl := 132) X ac_Z (by decide) (by decide) (by decide) (Nat.le_of_ble_eq_true rfl) (Nat.le_of_ble_eq_true rfl) dX12_init_73 (fun q8 => ?_)
  refine n_putF X ff_12_39 rfl rfl hlen (by decide) dX12_init_75 (fun hlen => ?_)
  refine n_aload_n X 0 dX12_init_78 rfl rfl ?_
  refine n_sipush X dX12_init_79 (by decide) ?_
  refine n_newaZ (N := 288) (ce := 8) (sl := 156) X ac_Z (by decide) (by decide) (by decide) (Nat.le_of_ble_eq_true rfl) (Nat.le_of_ble_eq_true rfl) dX12_init_82 (fun q9 => ?_)
  refine n_putF X ff_12_43 rfl rfl hlen (by decide) dX12_init_84 (fun hlen => ?_)
  refine n_aload_n X 0 dX12_init_87 rfl rfl ?_
  refine n_sipush X dX12_init_88 (by decide) ?_
  refine n_newaZ (N := 288) (ce := 9) (sl := 444) X ac_Z (by decide) (by decide) (by decide) (Nat.le_of_ble_eq_true rfl) (Nat.le_of_ble_eq_true rfl) dX12_init_91 (fun q10 => ?_)
  refine n_putF X ff_12_46 rfl rfl hlen (by decide) dX12_init_93 (fun hlen => ?_)
  refine n_aload_n X 0 dX12_init_96 rfl rfl ?_
  refine n_bipush X dX12_init_97 (by decide) ?_
  refine n_newaZ (N := 24) (ce := 10) (sl := 732) X ac_Z (by decide) (by decide) (by decide) (Nat.le_of_ble_eq_true rfl) (Nat.le_of_ble_eq_true rfl) dX12_init_99 (fun q11 => ?_)
  refine n_putF X ff_12_49 rfl rfl hlen (by decide) dX12_init_101 (fun hlen => ?_)
  refine n_aload_n X 0 dX12_init_104 rfl rfl ?_
  refine n_bipush X dX12_init_105 (by decide) ?_
  refine n_newaZ (N := 12) (ce := 11) (sl := 756) X ac_Z (by decide) (by decide) (by decide) (Nat.le_of_ble_eq_true rfl) (Nat.le_of_ble_eq_true rfl) dX12_init_107 (fun q12 => ?_)
  refine n_putF X ff_12_52 rfl rfl hlen (by decide) dX12_init_109 (fun hlen => ?_)
  refine n_aload_n X 0 dX12_init_112 rfl rfl ?_
  refine n_bipush X dX12_init_113 (by decide) ?_
  refine n_newaZ (N := 24) (ce := 12) (sl := 768) X ac_Z (by decide) (by decide) (by decide) (Nat.le_of_ble_eq_true rfl) (Nat.le_of_ble_eq_true rfl) dX12_init_115 (fun q13 => ?_)
  refine n_putF X ff_12_55 rfl rfl hlen (by decide) dX12_init_117 (fun hlen => ?_)
  refine n_aload_n X 0 dX12_init_120 rfl rfl ?_
  refine n_sipush X dX12_init_121 (by decide) ?_
  refine n_newaI (N := 288) (ce := 13) (sl := 792) X ac_I (by decide) (by decide) (by decide) (Nat.le_of_ble_eq_true rfl) (Nat.le_of_ble_eq_true rfl) dX12_init_124 (fun q14 => ?_)
  refine n_putF X ff_12_58 rfl rfl hlen (by decide) dX12_init_126 (fun hlen => ?_)
  refine n_aload_n X 0 dX12_init_129 rfl rfl ?_
  refine n_bipush X dX12_init_130 (by decide) ?_
  refine n_newaI (N := 24) (ce := 14) (sl := 1080) X ac_I (by decide) (by decide) (by decide) (Nat.le_of_ble_eq_true rfl) (Nat.le_of_ble_eq_true rfl) dX12_init_132 (fun q15 => ?_)
  refine n_putF X ff_12_61 rfl rfl hlen (by decide) dX12_init_134 (fun hlen => ?_)
  refine n_aload_n X 0 dX12_init_137 rfl rfl ?_
  refine n_bipush X dX12_init_138 (by decide) ?_
  refine n_newaI (N := 12) (ce := 15) (sl := 1104) X ac_I (by decide) (by decide) (by decide) (Nat.le_of_ble_eq_true rfl) (Nat.le_of_ble_eq_true rfl) dX12_init_140 (fun q16 => ?_)
  refine n_putF X ff_12_64 rfl rfl hlen (by decide) dX12_init_142 (fun hlen => ?_)
  refine n_aload_n X 0 dX12_init_145 rfl rfl ?_
  refine n_bipush X dX12_init_146 (by decide) ?_
  refine n_newaI (N := 12) (ce := 16) (sl := 1116) X ac_I (by decide) (by decide) (by decide) (Nat.le_of_ble_eq_true rfl) (Nat.le_of_ble_eq_true rfl) dX12_init_148 (fun q17 => ?_)
  refine n_putF X ff_12_67 rfl rfl hlen (by decide) dX12_init_150 (fun hlen => ?_)
  refine n_aload_n X 0 dX12_init_153 rfl rfl ?_
  refine n_bipush X dX12_init_154 (by decide) ?_
  refine n_newaI (N := 24) (ce := 17) (sl := 1128) X ac_I (by decide) (by decide) (by decide) (Nat.le_of_ble_eq_true rfl) (Nat.le_of_ble_eq_true rfl) dX12_init_156 (fun q18 => ?_)
  refine n_putF X ff_12_70 rfl rfl hlen (by decide) dX12_init_158 (fun hlen => ?_)
  refine n_aload_n X 0 dX12_init_161 rfl rfl ?_
  refine n_bipush X dX12_init_162 (by decide) ?_
  refine n_newaI (N := 24) (ce := 18) (sl := 1152) X ac_I (by decide) (by decide) (by decide) (Nat.le_of_ble_eq_true rfl) (Nat.le_of_ble_eq_true rfl) dX12_init_164 (fun q19 => ?_)
  refine n_putF X ff_12_73 rfl rfl hlen (by decide) dX12_init_166 (fun hlen => ?_)
  refine n_aload_n X 0 dX12_init_169 rfl rfl ?_
  refine n_sipush X dX12_init_170 (by decide) ?_
  refine n_newaI (N := 200) (ce := 19) (sl := 1176) X ac_I (by decide) (by decide) (by decide) (Nat.le_of_ble_eq_true rfl) (Nat.le_of_ble_eq_true rfl) dX12_init_173 (fun q20 => ?_)
  refine n_putF X ff_12_76 rfl rfl hlen (by decide) dX12_init_175 (fun hlen => ?_)
  refine n_aload_n X 0 dX12_init_178 rfl rfl ?_
  refine n_sipush X dX12_init_179 (by decide) ?_
  refine n_newaI (N := 200) (ce := 20) (sl := 1376) X ac_I (by decide) (by decide) (by decide) (Nat.le_of_ble_eq_true rfl) (Nat.le_of_ble_eq_true rfl) dX12_init_182 (fun q21 => ?_)
  refine n_putF X ff_12_79 rfl rfl hlen (by decide) dX12_init_184 (fun hlen => ?_)
  refine n_aload_n X 0 dX12_init_187 rfl rfl ?_
  refine n_sipush X dX12_init_188 (by decide) ?_
  refine n_newaI (N := 200) (ce := 21) (sl := 1576) X ac_I (by decide) (by decide) (by decide) (Nat.le_of_ble_eq_true rfl) (Nat.le_of_ble_eq_true rfl) dX12_init_191 (fun q22 => ?_)
  refine n_putF X ff_12_82 rfl rfl hlen (by decide) dX12_init_193 (fun hlen => ?_)
  refine n_aload_n X 0 dX12_init_196 rfl rfl ?_
  refine n_sipush X dX12_init_197 (by decide) ?_
  refine n_newaI (N := 200) (ce := 22) (sl := 1776) X ac_I (by decide) (by decide) (by decide) (Nat.le_of_ble_eq_true rfl) (Nat.le_of_ble_eq_true rfl) dX12_init_200 (fun q23 => ?_)
  refine n_putF X ff_12_85 rfl rfl hlen (by decide) dX12_init_202 (fun hlen => ?_)
  refine n_aload_n X 0 dX12_init_205 rfl rfl ?_
  refine n_sipush X dX12_init_206 (by decide) ?_
  refine n_newaI (N := 200) (ce := 23) (sl := 1976) X ac_I (by decide) (by decide) (by decide) (Nat.le_of_ble_eq_true rfl) (Nat.le_of_ble_eq_true rfl) dX12_init_209 (fun q24 => ?_)
  refine n_putF X ff_12_88 rfl rfl hlen (by decide) dX12_init_211 (fun hlen => ?_)
  refine n_aload_n X 0 dX12_init_214 rfl rfl ?_
  refine n_sipush X dX12_init_215 (by decide) ?_
  refine n_newaI (N := 288) (ce := 24) (sl := 2176) X ac_I (by decide) (by decide) (by decide) (Nat.le_of_ble_eq_true rfl) (Nat.le_of_ble_eq_true rfl) dX12_init_218 (fun q25 => ?_)
  refine n_putF X ff_12_91 rfl rfl hlen (by decide) dX12_init_220 (fun hlen => ?_)
  refine n_aload_n X 0 dX12_init_223 rfl rfl ?_
  refine n_bipush X dX12_init_224 (by decide) ?_
  refine n_newaI (N := 12) (ce := 25) (sl := 2464) X ac_I (by decide) (by decide) (by decide) (Nat.le_of_ble_eq_true rfl) (Nat.le_of_ble_eq_true rfl) dX12_init_226 (fun q26 => ?_)
  refine n_putF X ff_12_94 rfl rfl hlen (by decide) dX12_init_228 (fun hlen => ?_)
  refine n_aload_n X 0 dX12_init_231 rfl rfl ?_
  refine n_iconst X dX12_init_232 ?_
  refine n_newaI (N := 5) (ce := 26) (sl := 2476) X ac_I (by decide) (by decide) (by decide) (Nat.le_of_ble_eq_true rfl) (Nat.le_of_ble_eq_true rfl) dX12_init_233 (fun q27 => ?_)
  refine n_putF X ff_12_97 rfl rfl hlen (by decide) dX12_init_235 (fun hlen => ?_)
  refine n_aload_n X 0 dX12_init_238 rfl rfl ?_
  refine n_iconst X dX12_init_239 ?_
  refine n_newaI (N := 5) (ce := 27) (sl := 2481) X ac_I (by decide) (by decide) (by decide) (Nat.le_of_ble_eq_true rfl) (Nat.le_of_ble_eq_true rfl) dX12_init_240 (fun q28 => ?_)
  refine n_putF X ff_12_100 rfl rfl hlen (by decide) dX12_init_242 (fun hlen => ?_)
  refine n_aload_n X 0 dX12_init_245 rfl rfl ?_
  refine n_bipush X dX12_init_246 (by decide) ?_
  refine n_newaJ (N := 25) (ce := 28) (sl := 2486) X ac_J (by decide) (by decide) (by decide) (Nat.le_of_ble_eq_true rfl) (Nat.le_of_ble_eq_true rfl) dX12_init_248 (fun q29 => ?_)
  refine n_putF X ff_12_103 rfl rfl hlen (by decide) dX12_init_250 (fun hlen => ?_)
  refine n_aload_n X 0 dX12_init_253 rfl rfl ?_
  refine n_iconst X dX12_init_254 ?_
  refine n_newaJ (N := 5) (ce := 29) (sl := 2511) X ac_J (by decide) (by decide) (by decide) (Nat.le_of_ble_eq_true rfl) (Nat.le_of_ble_eq_true rfl) dX12_init_255 (fun q30 => ?_)
  refine n_putF X ff_12_107 rfl rfl hlen (by decide) dX12_init_257 (fun hlen => ?_)
  refine n_aload_n X 0 dX12_init_260 rfl rfl ?_
  refine n_iconst X dX12_init_261 ?_
  refine n_newaJ (N := 5) (ce := 30) (sl := 2516) X ac_J (by decide) (by decide) (by decide) (Nat.le_of_ble_eq_true rfl) (Nat.le_of_ble_eq_true rfl) dX12_init_262 (fun q31 => ?_)
  refine n_putF X ff_12_110 rfl rfl hlen (by decide) dX12_init_264 (fun hlen => ?_)
  refine n_aload_n X 0 dX12_init_267 rfl rfl ?_
  refine n_sipush X dX12_init_268 (by decide) ?_
  refine n_newaB (N := 300) (ce := 31) (sl := 2521) X ac_B (by decide) (by decide) (by decide) (Nat.le_of_ble_eq_true rfl) (Nat.le_of_ble_eq_true rfl) dX12_init_271 (fun q32 => ?_)
  refine n_putF X ff_12_113 rfl rfl hlen (by decide) dX12_init_273 (fun hlen => ?_)
  refine n_aload_n X 0 dX12_init_276 rfl rfl ?_
  refine n_iconst X dX12_init_277 ?_
  refine n_put X fp_12_117 rfl rfl hlen (by decide) dX12_init_278 (fun hlen => ?_)
  refine n_aload_n X 0 dX12_init_281 rfl rfl ?_
  refine n_iconst X dX12_init_282 ?_
  refine n_put X fp_12_120 rfl rfl hlen (by decide) dX12_init_283 (fun hlen => ?_)
  refine n_aload_n X 0 dX12_init_286 rfl rfl ?_
  refine n_bipush X dX12_init_287 (by decide) ?_
  refine n_newaI (N := 8) (ce := 32) (sl := 2821) X ac_I (by decide) (by decide) (by decide) (Nat.le_of_ble_eq_true rfl) (Nat.le_of_ble_eq_true rfl) dX12_init_289 (fun q33 => ?_)
  refine n_putF X ff_12_123 rfl rfl hlen (by decide) dX12_init_291 (fun hlen => ?_)
  refine n_aload_n X 0 dX12_init_294 rfl rfl ?_
  refine n_bipush X dX12_init_295 (by decide) ?_
  refine n_newaI (N := 8) (ce := 33) (sl := 2829) X ac_I (by decide) (by decide) (by decide) (Nat.le_of_ble_eq_true rfl) (Nat.le_of_ble_eq_true rfl) dX12_init_297 (fun q34 => ?_)
  refine n_putF X ff_12_126 rfl rfl hlen (by decide) dX12_init_299 (fun hlen => ?_)
  refine n_aload_n X 0 dX12_init_302 rfl rfl ?_
  refine n_bipush X dX12_init_303 (by decide) ?_
  refine n_newaI (N := 8) (ce := 34) (sl := 2837) X ac_I (by decide) (by decide) (by decide) (Nat.le_of_ble_eq_true rfl) (Nat.le_of_ble_eq_true rfl) dX12_init_305 (fun q35 => ?_)
  refine n_putF X ff_12_129 rfl rfl hlen (by decide) dX12_init_307 (fun hlen => ?_)
  refine n_aload_n X 0 dX12_init_310 rfl rfl ?_
  refine n_bipush X dX12_init_311 (by decide) ?_
  refine n_newaI (N := 8) (ce := 35) (sl := 2845) X ac_I (by decide) (by decide) (by decide) (Nat.le_of_ble_eq_true rfl) (Nat.le_of_ble_eq_true rfl) dX12_init_313 (fun q36 => ?_)
  refine n_putF X ff_12_132 rfl rfl hlen (by decide) dX12_init_315 (fun hlen => ?_)
  refine n_aload_n X 0 dX12_init_318 rfl rfl ?_
  refine n_bipush X dX12_init_319 (by decide) ?_
  refine n_newaI (N := 8) (ce := 36) (sl := 2853) X ac_I (by decide) (by decide) (by decide) (Nat.le_of_ble_eq_true rfl) (Nat.le_of_ble_eq_true rfl) dX12_init_321 (fun q37 => ?_)
  refine n_putF X ff_12_135 rfl rfl hlen (by decide) dX12_init_323 (fun hlen => ?_)
  refine n_aload_n X 0 dX12_init_326 rfl rfl ?_
  refine n_bipush X dX12_init_327 (by decide) ?_
  refine n_newaZ (N := 8) (ce := 37) (sl := 2861) X ac_Z (by decide) (by decide) (by decide) (Nat.le_of_ble_eq_true rfl) (Nat.le_of_ble_eq_true rfl) dX12_init_329 (fun q38 => ?_)
  refine n_putF X ff_12_138 rfl rfl hlen (by decide) dX12_init_331 (fun hlen => ?_)
  refine n_aload_n X 0 dX12_init_334 rfl rfl ?_
  refine n_bipush X dX12_init_335 (by decide) ?_
  refine n_newaI (N := 9) (ce := 38) (sl := 2869) X ac_I (by decide) (by decide) (by decide) (Nat.le_of_ble_eq_true rfl) (Nat.le_of_ble_eq_true rfl) dX12_init_337 (fun q39 => ?_)
  refine n_putF X ff_12_141 rfl rfl hlen (by decide) dX12_init_339 (fun hlen => ?_)
  refine n_aload_n X 0 dX12_init_342 rfl rfl ?_
  refine n_bipush X dX12_init_343 (by decide) ?_
  refine n_newaI (N := 9) (ce := 39) (sl := 2878) X ac_I (by decide) (by decide) (by decide) (Nat.le_of_ble_eq_true rfl) (Nat.le_of_ble_eq_true rfl) dX12_init_345 (fun q40 => ?_)
  refine n_putF X ff_12_144 rfl rfl hlen (by decide) dX12_init_347 (fun hlen => ?_)
  refine n_aload_n X 0 dX12_init_350 rfl rfl ?_
  refine n_bipush X dX12_init_351 (by decide) ?_
  refine n_newaI (N := 9) (ce := 40) (sl := 2887) X ac_I (by decide) (by decide) (by decide) (Nat.le_of_ble_eq_true rfl) (Nat.le_of_ble_eq_true rfl) dX12_init_353 (fun q41 => ?_)
  refine n_putF X ff_12_147 rfl rfl hlen (by decide) dX12_init_355 (fun hlen => ?_)
  refine n_aload_n X 0 dX12_init_358 rfl rfl ?_
  refine n_bipush X dX12_init_359 (by decide) ?_
  refine n_newaI (N := 9) (ce := 41) (sl := 2896) X ac_I (by decide) (by decide) (by decide) (Nat.le_of_ble_eq_true rfl) (Nat.le_of_ble_eq_true rfl) dX12_init_361 (fun q42 => ?_)
  refine n_putF X ff_12_150 rfl rfl hlen (by decide) dX12_init_363 (fun hlen => ?_)
  refine n_aload_n X 0 dX12_init_366 rfl rfl ?_
  refine n_bipush X dX12_init_367 (by decide) ?_
  refine n_newaI (N := 9) (ce := 42) (sl := 2905) X ac_I (by decide) (by decide) (by decide) (Nat.le_of_ble_eq_true rfl) (Nat.le_of_ble_eq_true rfl) dX12_init_369 (fun q43 => ?_)
  refine n_putF X ff_12_153 rfl rfl hlen (by decide) dX12_init_371 (fun hlen => ?_)
  refine n_aload_n X 0 dX12_init_374 rfl rfl ?_
  refine n_bipush X dX12_init_375 (by decide) ?_
  refine n_newaZ (N := 9) (ce := 43) (sl := 2914) X ac_Z (by decide) (by decide) (by decide) (Nat.le_of_ble_eq_true rfl) (Nat.le_of_ble_eq_true rfl) dX12_init_377 (fun q44 => ?_)
  refine n_putF X ff_12_156 rfl rfl hlen (by decide) dX12_init_379 (fun hlen => ?_)
  refine n_aload_n X 0 dX12_init_382 rfl rfl ?_
  refine n_bipush X dX12_init_383 (by decide) ?_
  refine n_newaJ (N := 24) (ce := 44) (sl := 2923) X ac_J (by decide) (by decide) (by decide) (Nat.le_of_ble_eq_true rfl) (Nat.le_of_ble_eq_true rfl) dX12_init_385 (fun q45 => ?_)
  refine n_putF X ff_12_159 rfl rfl hlen (by decide) dX12_init_387 (fun hlen => ?_)
  refine n_aload_n X 0 dX12_init_390 rfl rfl ?_
  refine n_bipush X dX12_init_391 (by decide) ?_
  refine n_newaJ (N := 24) (ce := 45) (sl := 2947) X ac_J (by decide) (by decide) (by decide) (Nat.le_of_ble_eq_true rfl) (Nat.le_of_ble_eq_true rfl) dX12_init_393 (fun q46 => ?_)
  refine n_putF X ff_12_162 rfl rfl hlen (by decide) dX12_init_395 (fun hlen => ?_)
  refine n_aload_n X 0 dX12_init_398 rfl rfl ?_
  refine n_bipush X dX12_init_399 (by decide) ?_
  refine n_newaZ (N := 24) (ce := 46) (sl := 2971) X ac_Z (by decide) (by decide) (by decide) (Nat.le_of_ble_eq_true rfl) (Nat.le_of_ble_eq_true rfl) dX12_init_401 (fun q47 => ?_)
  refine n_putF X ff_12_165 rfl rfl hlen (by decide) dX12_init_403 (fun hlen => ?_)
  refine n_aload_n X 0 dX12_init_406 rfl rfl ?_
  refine n_bipush X dX12_init_407 (by decide) ?_
  refine n_newaZ (N := 24) (ce := 47) (sl := 2995) X ac_Z (by decide) (by decide) (by decide) (Nat.le_of_ble_eq_true rfl) (Nat.le_of_ble_eq_true rfl) dX12_init_409 (fun q48 => ?_)
  refine n_putF X ff_12_168 rfl rfl hlen (by decide) dX12_init_411 (fun hlen => ?_)
  refine n_aload_n X 0 dX12_init_414 rfl rfl ?_
  refine n_bipush X dX12_init_415 (by decide) ?_
  refine n_newaZ (N := 24) (ce := 48) (sl := 3019) X ac_Z (by decide) (by decide) (by decide) (Nat.le_of_ble_eq_true rfl) (Nat.le_of_ble_eq_true rfl) dX12_init_417 (fun q49 => ?_)
  refine n_putF X ff_12_171 rfl rfl hlen (by decide) dX12_init_419 (fun hlen => ?_)
  refine n_aload_n X 0 dX12_init_422 rfl rfl ?_
  refine n_iconst X dX12_init_423 ?_
  refine n_newaI (N := 4) (ce := 49) (sl := 3043) X ac_I (by decide) (by decide) (by decide) (Nat.le_of_ble_eq_true rfl) (Nat.le_of_ble_eq_true rfl) dX12_init_424 (fun q50 => ?_)
  refine n_putF X ff_12_174 rfl rfl hlen (by decide) dX12_init_426 (fun hlen => ?_)
  refine n_aload_n X 0 dX12_init_429 rfl rfl ?_
  refine n_iconst X dX12_init_430 ?_
  refine n_newaI (N := 4) (ce := 50) (sl := 3047) X ac_I (by decide) (by decide) (by decide) (Nat.le_of_ble_eq_true rfl) (Nat.le_of_ble_eq_true rfl) dX12_init_431 (fun q51 => ?_)
  refine n_putF X ff_12_177 rfl rfl hlen (by decide) dX12_init_433 (fun hlen => ?_)
  refine n_aload_n X 0 dX12_init_436 rfl rfl ?_
  refine n_iconst X dX12_init_437 ?_
  refine n_newaI (N := 4) (ce := 51) (sl := 3051) X ac_I (by decide) (by decide) (by decide) (Nat.le_of_ble_eq_true rfl) (Nat.le_of_ble_eq_true rfl) dX12_init_438 (fun q52 => ?_)
  refine n_putF X ff_12_180 rfl rfl hlen (by decide) dX12_init_440 (fun hlen => ?_)
  refine n_aload_n X 0 dX12_init_443 rfl rfl ?_
  refine n_bipush X dX12_init_444 (by decide) ?_
  refine n_newaI (N := 24) (ce := 52) (sl := 3055) X ac_I (by decide) (by decide) (by decide) (Nat.le_of_ble_eq_true rfl) (Nat.le_of_ble_eq_true rfl) dX12_init_446 (fun q53 => ?_)
  refine n_putF X ff_12_183 rfl rfl hlen (by decide) dX12_init_448 (fun hlen => ?_)
  refine n_aload_n X 0 dX12_init_451 rfl rfl ?_
  refine n_iconst X dX12_init_452 ?_
  refine n_newaI (N := 4) (ce := 53) (sl := 3079) X ac_I (by decide) (by decide) (by decide) (Nat.le_of_ble_eq_true rfl) (Nat.le_of_ble_eq_true rfl) dX12_init_453 (fun q54 => ?_)
  refine n_putF X ff_12_186 rfl rfl hlen (by decide) dX12_init_455 (fun hlen => ?_)
  refine n_aload_n X 0 dX12_init_458 rfl rfl ?_
  refine n_iconst X dX12_init_459 ?_
  refine n_newaI (N := 4) (ce := 54) (sl := 3083) X ac_I (by decide) (by decide) (by decide) (Nat.le_of_ble_eq_true rfl) (Nat.le_of_ble_eq_true rfl) dX12_init_460 (fun q55 => ?_)
  refine n_putF X ff_12_189 rfl rfl hlen (by decide) dX12_init_462 (fun hlen => ?_)
  refine n_aload_n X 0 dX12_init_465 rfl rfl ?_
  refine n_iconst X dX12_init_466 ?_
  refine n_newaI (N := 4) (ce := 55) (sl := 3087) X ac_I (by decide) (by decide) (by decide) (Nat.le_of_ble_eq_true rfl) (Nat.le_of_ble_eq_true rfl) dX12_init_467 (fun q56 => ?_)
  refine n_putF X ff_12_192 rfl rfl hlen (by decide) dX12_init_469 (fun hlen => ?_)
  refine n_return X (fun c => [q1, q2, q3, q4, q5, q6, q7, q8, q9, q10, q11, q12, q13, q14, q15, q16, q17, q18, q19, q20, q21, q22, q23, q24, q25, q26, q27, q28, q29, q30, q31, q32, q33, q34, q35, q36, q37, q38, q39, q40, q41, q42, q43, q44, q45, q46, q47, q48, q49, q50, q51, q52, q53, q54, q55, q56].getD (c - 1) 0) ?_ dX12_init_472
  rw [wlM, wd_go]
  simp only [fsM0, List.set_cons_succ, List.set_cons_zero, List.nil_append, List.cons_append]
  rfl
