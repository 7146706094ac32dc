theorem fl_12_198 : FL RX12 198 12 0 := ⟨RX12, TX12, 86, rfl, by decide, tmem 957 (by decide +kernel) (by decide +kernel), inX12⟩
theorem fl_12_195 : FL RX12 195 12 1 := ⟨RX12, TX12, 86, rfl, by decide, tmem 958 (by decide +kernel) (by decide +kernel), inX12⟩
theorem fp_12_195 : FP RX12 195 12 1 (.int) := ⟨RX12, TX12, 86, tyX12, rfl, by decide, tmem 958 (by decide +kernel) (by decide +kernel), inX12, tyX12_ok, nmX12, rfl, by decide +kernel⟩
theorem k_M_0_1 : fk shM 0 1 = some (12, .inl 0) := rfl
theorem k_M_0_0 : fk shM 0 0 = some (12, .inl 0) := rfl
theorem fp_12_198 : FP RX12 198 12 0 (.int) := ⟨RX12, TX12, 86, tyX12, rfl, by decide, tmem 957 (by decide +kernel) (by decide +kernel), inX12, tyX12_ok, nmX12, rfl, by decide +kernel⟩
theorem fl_12_205 : FL RX12 205 12 4 := ⟨RX12, TX12, 86, rfl, by decide, tmem 961 (by decide +kernel) (by decide +kernel), inX12⟩
theorem fl_12_17 : FL RX12 17 12 7 := ⟨RX12, TX12, 86, rfl, by decide, tmem 964 (by decide +kernel) (by decide +kernel), inX12⟩
theorem fl_12_21 : FL RX12 21 12 8 := ⟨RX12, TX12, 86, rfl, by decide, tmem 965 (by decide +kernel) (by decide +kernel), inX12⟩
theorem fl_12_24 : FL RX12 24 12 9 := ⟨RX12, TX12, 86, rfl, by decide, tmem 966 (by decide +kernel) (by decide +kernel), inX12⟩
theorem fl_12_27 : FL RX12 27 12 10 := ⟨RX12, TX12, 86, rfl, by decide, tmem 967 (by decide +kernel) (by decide +kernel), inX12⟩
theorem fl_12_39 : FL RX12 39 12 14 := ⟨RX12, TX12, 86, rfl, by decide, tmem 971 (by decide +kernel) (by decide +kernel), inX12⟩
theorem ml_RX12_201 : Cond.methodLink RX12 201 yX12_refuse ∈ gt := tmem 1224 (by decide +kernel) (by decide +kernel)
theorem yw_X12_refuse : YW yX12_refuse cX12_refuse 2 (some .int) 1 := ⟨tmem 1227 (by decide +kernel) (by decide +kernel), tmem 13 (by decide +kernel) (by decide +kernel), by decide, by decide, by decide +kernel⟩
theorem yv_X12_refuse : YV yX12_refuse := ⟨tmem 1226 (by decide +kernel) (by decide +kernel), smem 43 (by decide +kernel) (by decide +kernel)⟩
theorem o_M_0 : shM[0]? = some (.inr (12, ks_M_0)) := rfl
theorem k_M_0_4 : fk shM 0 4 = some (12, .inl 0) := rfl
theorem k_M_0_7 : fk shM 0 7 = some (12, .inr 1) := rfl
theorem a_M_1 : shM[1]? = some (.inl (0, 24, .inl 0)) := rfl
theorem k_M_0_8 : fk shM 0 8 = some (12, .inr 2) := rfl
theorem a_M_2 : shM[2]? = some (.inl (0, 24, .inl 0)) := rfl
theorem k_M_0_9 : fk shM 0 9 = some (12, .inr 3) := rfl
theorem a_M_3 : shM[3]? = some (.inl (0, 24, .inl 0)) := rfl
theorem k_M_0_10 : fk shM 0 10 = some (12, .inr 4) := rfl
theorem a_M_4 : shM[4]? = some (.inl (0, 24, .inl 0)) := rfl
theorem k_M_0_14 : fk shM 0 14 = some (12, .inr 8) := rfl
theorem a_M_8 : shM[8]? = some (.inl (2, 24, .inl 0)) := rfl
theorem fp_12_205 : FP RX12 205 12 4 (.int) := ⟨RX12, TX12, 86, tyX12, rfl, by decide, tmem 961 (by decide +kernel) (by decide +kernel), inX12, tyX12_ok, nmX12, rfl, by decide +kernel⟩
theorem fl_12_208 : FL RX12 208 12 5 := ⟨RX12, TX12, 86, rfl, by decide, tmem 962 (by decide +kernel) (by decide +kernel), inX12⟩
theorem fl_12_30 : FL RX12 30 12 11 := ⟨RX12, TX12, 86, rfl, by decide, tmem 968 (by decide +kernel) (by decide +kernel), inX12⟩
theorem fl_12_33 : FL RX12 33 12 12 := ⟨RX12, TX12, 86, rfl, by decide, tmem 969 (by decide +kernel) (by decide +kernel), inX12⟩
theorem fl_12_36 : FL RX12 36 12 13 := ⟨RX12, TX12, 86, rfl, by decide, tmem 970 (by decide +kernel) (by decide +kernel), inX12⟩
theorem k_M_0_5 : fk shM 0 5 = some (12, .inl 0) := rfl
theorem k_M_0_11 : fk shM 0 11 = some (12, .inr 5) := rfl
theorem a_M_5 : shM[5]? = some (.inl (0, 12, .inl 0)) := rfl
theorem k_M_0_12 : fk shM 0 12 = some (12, .inr 6) := rfl
theorem a_M_6 : shM[6]? = some (.inl (0, 12, .inl 0)) := rfl
theorem k_M_0_13 : fk shM 0 13 = some (12, .inr 7) := rfl
theorem a_M_7 : shM[7]? = some (.inl (0, 12, .inl 0)) := rfl
theorem fp_12_208 : FP RX12 208 12 5 (.int) := ⟨RX12, TX12, 86, tyX12, rfl, by decide, tmem 962 (by decide +kernel) (by decide +kernel), inX12, tyX12_ok, nmX12, rfl, by decide +kernel⟩
theorem ml_RX12_215 : Cond.methodLink RX12 215 yX12_mayOf ∈ gt := tmem 1240 (by decide +kernel) (by decide +kernel)
theorem yw_X12_mayOf : YW yX12_mayOf cX12_mayOf 3 (some .boolean) 2 := ⟨tmem 1243 (by decide +kernel) (by decide +kernel), tmem 13 (by decide +kernel) (by decide +kernel), by decide, by decide, by decide +kernel⟩
theorem yv_X12_mayOf : YV yX12_mayOf := ⟨tmem 1242 (by decide +kernel) (by decide +kernel), smem 45 (by decide +kernel) (by decide +kernel)⟩
theorem ml_RX12_211 : Cond.methodLink RX12 211 yX12_isBoard ∈ gt := tmem 1236 (by decide +kernel) (by decide +kernel)
theorem yw_X12_isBoard : YW yX12_isBoard cX12_isBoard 2 (some .boolean) 1 := ⟨tmem 1239 (by decide +kernel) (by decide +kernel), tmem 13 (by decide +kernel) (by decide +kernel), by decide, by decide, by decide +kernel⟩
theorem yv_X12_isBoard : YV yX12_isBoard := ⟨tmem 1238 (by decide +kernel) (by decide +kernel), smem 44 (by decide +kernel) (by decide +kernel)⟩
theorem ml_RX12_219 : Cond.methodLink RX12 219 yX12_isJudge ∈ gt := tmem 1248 (by decide +kernel) (by decide +kernel)
theorem yw_X12_isJudge : YW yX12_isJudge cX12_isJudge 2 (some .boolean) 1 := ⟨tmem 1251 (by decide +kernel) (by decide +kernel), tmem 13 (by decide +kernel) (by decide +kernel), by decide, by decide, by decide +kernel⟩
theorem yv_X12_isJudge : YV yX12_isJudge := ⟨tmem 1250 (by decide +kernel) (by decide +kernel), smem 46 (by decide +kernel) (by decide +kernel)⟩
theorem ml_RX12_222 : Cond.methodLink RX12 222 yX12_no ∈ gt := tmem 1256 (by decide +kernel) (by decide +kernel)
theorem yw_X12_no : YW yX12_no cX12_no 2 (some .boolean) 1 := ⟨tmem 1259 (by decide +kernel) (by decide +kernel), tmem 13 (by decide +kernel) (by decide +kernel), by decide, by decide, by decide +kernel⟩
theorem yv_X12_no : YV yX12_no := ⟨tmem 1258 (by decide +kernel) (by decide +kernel), smem 47 (by decide +kernel) (by decide +kernel)⟩
theorem fl_12_13 : FL RX12 13 12 6 := ⟨RX12, TX12, 86, rfl, by decide, tmem 963 (by decide +kernel) (by decide +kernel), inX12⟩
theorem fp_12_13 : FP RX12 13 12 6 (.int) := ⟨RX12, TX12, 86, tyX12, rfl, by decide, tmem 963 (by decide +kernel) (by decide +kernel), inX12, tyX12_ok, nmX12, rfl, by decide +kernel⟩
theorem k_M_0_6 : fk shM 0 6 = some (12, .inl 0) := rfl
theorem fl_12_61 : FL RX12 61 12 24 := ⟨RX12, TX12, 86, rfl, by decide, tmem 981 (by decide +kernel) (by decide +kernel), inX12⟩
theorem fl_12_64 : FL RX12 64 12 25 := ⟨RX12, TX12, 86, rfl, by decide, tmem 982 (by decide +kernel) (by decide +kernel), inX12⟩
theorem fl_12_46 : FL RX12 46 12 19 := ⟨RX12, TX12, 86, rfl, by decide, tmem 976 (by decide +kernel) (by decide +kernel), inX12⟩
theorem fl_12_58 : FL RX12 58 12 23 := ⟨RX12, TX12, 86, rfl, by decide, tmem 980 (by decide +kernel) (by decide +kernel), inX12⟩
theorem k_M_0_24 : fk shM 0 24 = some (12, .inr 15) := rfl
theorem a_M_15 : shM[15]? = some (.inl (0, 24, .inl 0)) := rfl
theorem k_M_0_23 : fk shM 0 23 = some (12, .inr 14) := rfl
theorem ml_RX12_225 : Cond.methodLink RX12 225 yX12_at ∈ gt := tmem 1268 (by decide +kernel) (by decide +kernel)
theorem yw_X12_at : YW yX12_at cX12_at 2 (some .int) 2 := ⟨tmem 1270 (by decide +kernel) (by decide +kernel), tmem 13 (by decide +kernel) (by decide +kernel), by decide, by decide, by decide +kernel⟩
theorem ys_X12_at : Cond.static yX12_at ∈ gt := tmem 1269 (by decide +kernel) (by decide +kernel)
theorem a_M_14 : shM[14]? = some (.inl (0, 288, .inl 0)) := rfl
theorem fl_12_70 : FL RX12 70 12 27 := ⟨RX12, TX12, 86, rfl, by decide, tmem 984 (by decide +kernel) (by decide +kernel), inX12⟩
theorem fl_12_55 : FL RX12 55 12 22 := ⟨RX12, TX12, 86, rfl, by decide, tmem 979 (by decide +kernel) (by decide +kernel), inX12⟩
theorem fl_12_73 : FL RX12 73 12 28 := ⟨RX12, TX12, 86, rfl, by decide, tmem 985 (by decide +kernel) (by decide +kernel), inX12⟩
theorem fl_12_52 : FL RX12 52 12 21 := ⟨RX12, TX12, 86, rfl, by decide, tmem 978 (by decide +kernel) (by decide +kernel), inX12⟩
theorem fl_12_67 : FL RX12 67 12 26 := ⟨RX12, TX12, 86, rfl, by decide, tmem 983 (by decide +kernel) (by decide +kernel), inX12⟩
theorem k_M_0_22 : fk shM 0 22 = some (12, .inr 13) := rfl
theorem a_M_13 : shM[13]? = some (.inl (2, 24, .inl 0)) := rfl
theorem k_M_0_19 : fk shM 0 19 = some (12, .inr 10) := rfl
theorem a_M_10 : shM[10]? = some (.inl (2, 288, .inl 0)) := rfl
theorem ml_RX12_232 : Cond.methodLink RX12 232 yX12_isFree ∈ gt := tmem 1275 (by decide +kernel) (by decide +kernel)
theorem yw_X12_isFree : YW yX12_isFree cX12_isFree 3 (some .boolean) 2 := ⟨tmem 1278 (by decide +kernel) (by decide +kernel), tmem 13 (by decide +kernel) (by decide +kernel), by decide, by decide, by decide +kernel⟩
theorem yv_X12_isFree : YV yX12_isFree := ⟨tmem 1277 (by decide +kernel) (by decide +kernel), smem 50 (by decide +kernel) (by decide +kernel)⟩
theorem k_M_0_28 : fk shM 0 28 = some (12, .inr 19) := rfl
theorem a_M_19 : shM[19]? = some (.inl (0, 24, .inl 0)) := rfl
theorem k_M_0_27 : fk shM 0 27 = some (12, .inr 18) := rfl
theorem a_M_18 : shM[18]? = some (.inl (0, 24, .inl 0)) := rfl
theorem k_M_0_21 : fk shM 0 21 = some (12, .inr 12) := rfl
theorem a_M_12 : shM[12]? = some (.inl (2, 12, .inl 0)) := rfl
theorem k_M_0_26 : fk shM 0 26 = some (12, .inr 17) := rfl
theorem a_M_17 : shM[17]? = some (.inl (0, 12, .inl 0)) := rfl
theorem k_M_0_25 : fk shM 0 25 = some (12, .inr 16) := rfl
theorem a_M_16 : shM[16]? = some (.inl (0, 12, .inl 0)) := rfl
theorem fl_12_49 : FL RX12 49 12 20 := ⟨RX12, TX12, 86, rfl, by decide, tmem 977 (by decide +kernel) (by decide +kernel), inX12⟩
theorem fl_12_43 : FL RX12 43 12 18 := ⟨RX12, TX12, 86, rfl, by decide, tmem 975 (by decide +kernel) (by decide +kernel), inX12⟩
theorem k_M_0_18 : fk shM 0 18 = some (12, .inr 9) := rfl
theorem a_M_9 : shM[9]? = some (.inl (2, 288, .inl 0)) := rfl
theorem k_M_0_20 : fk shM 0 20 = some (12, .inr 11) := rfl
theorem a_M_11 : shM[11]? = some (.inl (2, 24, .inl 0)) := rfl
theorem fl_12_243 : FL RX12 243 12 15 := ⟨RX12, TX12, 86, rfl, by decide, tmem 972 (by decide +kernel) (by decide +kernel), inX12⟩
theorem fl_12_250 : FL RX12 250 12 17 := ⟨RX12, TX12, 86, rfl, by decide, tmem 974 (by decide +kernel) (by decide +kernel), inX12⟩
theorem fl_12_247 : FL RX12 247 12 16 := ⟨RX12, TX12, 86, rfl, by decide, tmem 973 (by decide +kernel) (by decide +kernel), inX12⟩
theorem k_M_0_15 : fk shM 0 15 = some (12, .inl 0) := rfl
theorem k_M_0_17 : fk shM 0 17 = some (12, .inl 0) := rfl
theorem k_M_0_16 : fk shM 0 16 = some (12, .inl 0) := rfl
theorem fl_12_256 : FL RX12 256 12 29 := ⟨RX12, TX12, 86, rfl, by decide, tmem 986 (by decide +kernel) (by decide +kernel), inX12⟩
theorem fl_12_76 : FL RX12 76 12 30 := ⟨RX12, TX12, 86, rfl, by decide, tmem 987 (by decide +kernel) (by decide +kernel), inX12⟩
theorem fl_12_79 : FL RX12 79 12 31 := ⟨RX12, TX12, 86, rfl, by decide, tmem 988 (by decide +kernel) (by decide +kernel), inX12⟩
theorem fl_12_82 : FL RX12 82 12 32 := ⟨RX12, TX12, 86, rfl, by decide, tmem 989 (by decide +kernel) (by decide +kernel), inX12⟩
theorem fl_12_85 : FL RX12 85 12 33 := ⟨RX12, TX12, 86, rfl, by decide, tmem 990 (by decide +kernel) (by decide +kernel), inX12⟩
theorem fl_12_88 : FL RX12 88 12 34 := ⟨RX12, TX12, 86, rfl, by decide, tmem 991 (by decide +kernel) (by decide +kernel), inX12⟩
theorem ml_RX12_253 : Cond.methodLink RX12 253 yX12_isDay ∈ gt := tmem 1295 (by decide +kernel) (by decide +kernel)
theorem yw_X12_isDay : YW yX12_isDay cX12_isDay 1 (some .boolean) 1 := ⟨tmem 1297 (by decide +kernel) (by decide +kernel), tmem 13 (by decide +kernel) (by decide +kernel), by decide, by decide, by decide +kernel⟩
theorem ys_X12_isDay : Cond.static yX12_isDay ∈ gt := tmem 1296 (by decide +kernel) (by decide +kernel)
theorem k_M_0_29 : fk shM 0 29 = some (12, .inl 0) := rfl
theorem k_M_0_30 : fk shM 0 30 = some (12, .inr 20) := rfl
theorem a_M_20 : shM[20]? = some (.inl (0, 200, .inl 0)) := rfl
theorem k_M_0_31 : fk shM 0 31 = some (12, .inr 21) := rfl
theorem a_M_21 : shM[21]? = some (.inl (0, 200, .inl 0)) := rfl
theorem k_M_0_32 : fk shM 0 32 = some (12, .inr 22) := rfl
theorem a_M_22 : shM[22]? = some (.inl (0, 200, .inl 0)) := rfl
theorem k_M_0_33 : fk shM 0 33 = some (12, .inr 23) := rfl
theorem a_M_23 : shM[23]? = some (.inl (0, 200, .inl 0)) := rfl
theorem k_M_0_34 : fk shM 0 34 = some (12, .inr 24) := rfl
theorem a_M_24 : shM[24]? = some (.inl (0, 200, .inl 0)) := rfl
theorem fp_12_256 : FP RX12 256 12 29 (.int) := ⟨RX12, TX12, 86, tyX12, rfl, by decide, tmem 986 (by decide +kernel) (by decide +kernel), inX12, tyX12_ok, nmX12, rfl, by decide +kernel⟩
theorem fl_12_91 : FL RX12 91 12 35 := ⟨RX12, TX12, 86, rfl, by decide, tmem 992 (by decide +kernel) (by decide +kernel), inX12⟩
theorem fl_12_94 : FL RX12 94 12 36 := ⟨RX12, TX12, 86, rfl, by decide, tmem 993 (by decide +kernel) (by decide +kernel), inX12⟩
theorem k_M_0_35 : fk shM 0 35 = some (12, .inr 25) := rfl
theorem a_M_25 : shM[25]? = some (.inl (0, 288, .inl 0)) := rfl
theorem k_M_0_36 : fk shM 0 36 = some (12, .inr 26) := rfl
theorem a_M_26 : shM[26]? = some (.inl (0, 12, .inl 0)) := rfl
theorem ml_RX12_259 : Cond.methodLink RX12 259 yJ9_min_7cf53 ∈ gt := tmem 1310 (by decide +kernel) (by decide +kernel)
theorem yw_J9_min_7cf53 : YW yJ9_min_7cf53 cJ9_min_7cf53 2 (some .int) 2 := ⟨tmem 642 (by decide +kernel) (by decide +kernel), tmem 15 (by decide +kernel) (by decide +kernel), by decide, by decide, by decide +kernel⟩
theorem ys_J9_min_7cf53 : Cond.static yJ9_min_7cf53 ∈ gt := tmem 641 (by decide +kernel) (by decide +kernel)
theorem ml_RX12_264 : Cond.methodLink RX12 264 yX12_known ∈ gt := tmem 1306 (by decide +kernel) (by decide +kernel)
theorem yw_X12_known : YW yX12_known cX12_known 6 none 1 := ⟨tmem 1309 (by decide +kernel) (by decide +kernel), tmem 13 (by decide +kernel) (by decide +kernel), by decide, by decide, by decide +kernel⟩
theorem yv_X12_known : YV yX12_known := ⟨tmem 1308 (by decide +kernel) (by decide +kernel), smem 52 (by decide +kernel) (by decide +kernel)⟩
theorem ml_RX12_267 : Cond.methodLink RX12 267 yX12_countOf ∈ gt := tmem 1311 (by decide +kernel) (by decide +kernel)
theorem yw_X12_countOf : YW yX12_countOf cX12_countOf 4 (some .int) 1 := ⟨tmem 1314 (by decide +kernel) (by decide +kernel), tmem 13 (by decide +kernel) (by decide +kernel), by decide, by decide, by decide +kernel⟩
theorem yv_X12_countOf : YV yX12_countOf := ⟨tmem 1313 (by decide +kernel) (by decide +kernel), smem 53 (by decide +kernel) (by decide +kernel)⟩
theorem fl_12_270 : FL RX12 270 12 39 := ⟨RX12, TX12, 86, rfl, by decide, tmem 996 (by decide +kernel) (by decide +kernel), inX12⟩
theorem fl_12_100 : FL RX12 100 12 38 := ⟨RX12, TX12, 86, rfl, by decide, tmem 995 (by decide +kernel) (by decide +kernel), inX12⟩
theorem fl_12_103 : FL RX12 103 12 40 := ⟨RX12, TX12, 86, rfl, by decide, tmem 997 (by decide +kernel) (by decide +kernel), inX12⟩
theorem fl_12_107 : FL RX12 107 12 41 := ⟨RX12, TX12, 86, rfl, by decide, tmem 998 (by decide +kernel) (by decide +kernel), inX12⟩
theorem k_M_0_38 : fk shM 0 38 = some (12, .inr 28) := rfl
theorem a_M_28 : shM[28]? = some (.inl (0, 5, .inl 0)) := rfl
theorem k_M_0_41 : fk shM 0 41 = some (12, .inr 30) := rfl
theorem a_M_30 : shM[30]? = some (.inl (1, 5, .inl 1)) := rfl
theorem k_M_0_40 : fk shM 0 40 = some (12, .inr 29) := rfl
theorem a_M_29 : shM[29]? = some (.inl (1, 25, .inl 1)) := rfl
theorem cst_RX12_273 : Jvm.Cond.constantLong RX12 273 (Int64.ofInt (-1)) ∈ gt := tmem 1336 (by decide +kernel) (by decide +kernel)
theorem k_M_0_39 : fk shM 0 39 = some (12, .inl 0) := rfl
theorem fl_12_110 : FL RX12 110 12 42 := ⟨RX12, TX12, 86, rfl, by decide, tmem 999 (by decide +kernel) (by decide +kernel), inX12⟩
theorem fl_12_97 : FL RX12 97 12 37 := ⟨RX12, TX12, 86, rfl, by decide, tmem 994 (by decide +kernel) (by decide +kernel), inX12⟩
theorem k_M_0_42 : fk shM 0 42 = some (12, .inr 31) := rfl
theorem ml_RX12_277 : Cond.methodLink RX12 277 yX12_square ∈ gt := tmem 1332 (by decide +kernel) (by decide +kernel)
theorem yw_X12_square : YW yX12_square cX12_square 13 (some .long) 1 := ⟨tmem 1335 (by decide +kernel) (by decide +kernel), tmem 13 (by decide +kernel) (by decide +kernel), by decide, by decide, by decide +kernel⟩
theorem yv_X12_square : YV yX12_square := ⟨tmem 1334 (by decide +kernel) (by decide +kernel), smem 56 (by decide +kernel) (by decide +kernel)⟩
theorem a_M_31 : shM[31]? = some (.inl (1, 5, .inl 1)) := rfl
theorem k_M_0_37 : fk shM 0 37 = some (12, .inr 27) := rfl
theorem a_M_27 : shM[27]? = some (.inl (0, 5, .inl 0)) := rfl
theorem cst_RX12_275 : Jvm.Cond.constantLong RX12 275 (Int64.ofInt 60) ∈ gt := tmem 1331 (by decide +kernel) (by decide +kernel)
theorem fp_12_270 : FP RX12 270 12 39 (.int) := ⟨RX12, TX12, 86, tyX12, rfl, by decide, tmem 996 (by decide +kernel) (by decide +kernel), inX12, tyX12_ok, nmX12, rfl, by decide +kernel⟩
theorem fl_12_281 : FL RX12 281 12 43 := ⟨RX12, TX12, 86, rfl, by decide, tmem 1000 (by decide +kernel) (by decide +kernel), inX12⟩
theorem fp_12_281 : FP RX12 281 12 43 (.long) := ⟨RX12, TX12, 86, tyX12, rfl, by decide, tmem 1000 (by decide +kernel) (by decide +kernel), inX12, tyX12_ok, nmX12, rfl, by decide +kernel⟩
theorem k_M_0_43 : fk shM 0 43 = some (12, .inl 1) := rfl
theorem ml_RX12_284 : Cond.methodLink RX12 284 yJ9_abs_067f4 ∈ gt := tmem 1344 (by decide +kernel) (by decide +kernel)
theorem yw_J9_abs_067f4 : YW yJ9_abs_067f4 cJ9_abs_067f4 2 (some .long) 1 := ⟨tmem 699 (by decide +kernel) (by decide +kernel), tmem 15 (by decide +kernel) (by decide +kernel), by decide, by decide, by decide +kernel⟩
theorem ys_J9_abs_067f4 : Cond.static yJ9_abs_067f4 ∈ gt := tmem 698 (by decide +kernel) (by decide +kernel)
theorem fl_12_292 : FL RX12 292 12 2 := ⟨RX12, TX12, 86, rfl, by decide, tmem 959 (by decide +kernel) (by decide +kernel), inX12⟩
theorem fp_12_292 : FP RX12 292 12 2 (.long) := ⟨RX12, TX12, 86, tyX12, rfl, by decide, tmem 959 (by decide +kernel) (by decide +kernel), inX12, tyX12_ok, nmX12, rfl, by decide +kernel⟩
theorem k_M_0_2 : fk shM 0 2 = some (12, .inl 1) := rfl
theorem fl_12_7 : FL RX12 7 12 3 := ⟨RX12, TX12, 86, rfl, by decide, tmem 960 (by decide +kernel) (by decide +kernel), inX12⟩
theorem fp_12_7 : FP RX12 7 12 3 (.long) := ⟨RX12, TX12, 86, tyX12, rfl, by decide, tmem 960 (by decide +kernel) (by decide +kernel), inX12, tyX12_ok, nmX12, rfl, by decide +kernel⟩
theorem k_M_0_3 : fk shM 0 3 = some (12, .inl 1) := rfl
theorem ml_RX12_288 : Cond.methodLink RX12 288 yX12_common ∈ gt := tmem 1341 (by decide +kernel) (by decide +kernel)
theorem yw_X12_common : YW yX12_common cX12_common 10 (some .long) 2 := ⟨tmem 1343 (by decide +kernel) (by decide +kernel), tmem 13 (by decide +kernel) (by decide +kernel), by decide, by decide, by decide +kernel⟩
theorem ys_X12_common : Cond.static yX12_common ∈ gt := tmem 1342 (by decide +kernel) (by decide +kernel)
theorem ml_RX12_301 : Cond.methodLink RX12 301 yX12_tells ∈ gt := tmem 1337 (by decide +kernel) (by decide +kernel)
theorem yw_X12_tells : YW yX12_tells cX12_tells 7 none 2 := ⟨tmem 1340 (by decide +kernel) (by decide +kernel), tmem 13 (by decide +kernel) (by decide +kernel), by decide, by decide, by decide +kernel⟩
theorem yv_X12_tells : YV yX12_tells := ⟨tmem 1339 (by decide +kernel) (by decide +kernel), smem 57 (by decide +kernel) (by decide +kernel)⟩
theorem ml_RX12_295 : Cond.methodLink RX12 295 yX12_sizeOf ∈ gt := tmem 1323 (by decide +kernel) (by decide +kernel)
theorem yw_X12_sizeOf : YW yX12_sizeOf cX12_sizeOf 4 (some .int) 1 := ⟨tmem 1326 (by decide +kernel) (by decide +kernel), tmem 13 (by decide +kernel) (by decide +kernel), by decide, by decide, by decide +kernel⟩
theorem yv_X12_sizeOf : YV yX12_sizeOf := ⟨tmem 1325 (by decide +kernel) (by decide +kernel), smem 54 (by decide +kernel) (by decide +kernel)⟩
theorem ml_RX12_298 : Cond.methodLink RX12 298 yX12_solve ∈ gt := tmem 1327 (by decide +kernel) (by decide +kernel)
theorem yw_X12_solve : YW yX12_solve cX12_solve 10 none 1 := ⟨tmem 1330 (by decide +kernel) (by decide +kernel), tmem 13 (by decide +kernel) (by decide +kernel), by decide, by decide, by decide +kernel⟩
theorem yv_X12_solve : YV yX12_solve := ⟨tmem 1329 (by decide +kernel) (by decide +kernel), smem 55 (by decide +kernel) (by decide +kernel)⟩
theorem fl_12_305 : FL RX12 305 12 79 := ⟨RX12, TX12, 86, rfl, by decide, tmem 1036 (by decide +kernel) (by decide +kernel), inX12⟩
theorem fp_12_305 : FP RX12 305 12 79 (.long) := ⟨RX12, TX12, 86, tyX12, rfl, by decide, tmem 1036 (by decide +kernel) (by decide +kernel), inX12, tyX12_ok, nmX12, rfl, by decide +kernel⟩
theorem k_M_0_79 : fk shM 0 79 = some (12, .inl 1) := rfl
theorem fl_12_308 : FL RX12 308 12 80 := ⟨RX12, TX12, 86, rfl, by decide, tmem 1037 (by decide +kernel) (by decide +kernel), inX12⟩
theorem fp_12_308 : FP RX12 308 12 80 (.long) := ⟨RX12, TX12, 86, tyX12, rfl, by decide, tmem 1037 (by decide +kernel) (by decide +kernel), inX12, tyX12_ok, nmX12, rfl, by decide +kernel⟩
theorem k_M_0_80 : fk shM 0 80 = some (12, .inl 1) := rfl
theorem ml_RX12_311 : Cond.methodLink RX12 311 yX12_fairOf ∈ gt := tmem 1349 (by decide +kernel) (by decide +kernel)
theorem yw_X12_fairOf : YW yX12_fairOf cX12_fairOf 10 none 1 := ⟨tmem 1352 (by decide +kernel) (by decide +kernel), tmem 13 (by decide +kernel) (by decide +kernel), by decide, by decide, by decide +kernel⟩
theorem yv_X12_fairOf : YV yX12_fairOf := ⟨tmem 1351 (by decide +kernel) (by decide +kernel), smem 58 (by decide +kernel) (by decide +kernel)⟩
theorem fl_12_314 : FL RX12 314 12 46 := ⟨RX12, TX12, 86, rfl, by decide, tmem 1003 (by decide +kernel) (by decide +kernel), inX12⟩
theorem fl_12_113 : FL RX12 113 12 44 := ⟨RX12, TX12, 86, rfl, by decide, tmem 1001 (by decide +kernel) (by decide +kernel), inX12⟩
theorem k_M_0_46 : fk shM 0 46 = some (12, .inl 0) := rfl
theorem k_M_0_44 : fk shM 0 44 = some (12, .inr 32) := rfl
theorem a_M_32 : shM[32]? = some (.inl (3, 300, .inl 0)) := rfl
theorem fl_12_317 : FL RX12 317 12 83 := ⟨RX12, TX12, 86, rfl, by decide, tmem 1040 (by decide +kernel) (by decide +kernel), inX12⟩
theorem fl_12_320 : FL RX12 320 12 82 := ⟨RX12, TX12, 86, rfl, by decide, tmem 1039 (by decide +kernel) (by decide +kernel), inX12⟩
theorem fl_12_342 : FL RX12 342 12 84 := ⟨RX12, TX12, 86, rfl, by decide, tmem 1041 (by decide +kernel) (by decide +kernel), inX12⟩
theorem fl_12_332 : FL RX12 332 12 85 := ⟨RX12, TX12, 86, rfl, by decide, tmem 1042 (by decide +kernel) (by decide +kernel), inX12⟩
theorem k_M_0_83 : fk shM 0 83 = some (12, .inl 0) := rfl
theorem fp_12_317 : FP RX12 317 12 83 (.int) := ⟨RX12, TX12, 86, tyX12, rfl, by decide, tmem 1040 (by decide +kernel) (by decide +kernel), inX12, tyX12_ok, nmX12, rfl, by decide +kernel⟩
theorem ml_RX12_323 : Cond.methodLink RX12 323 yX12_look ∈ gt := tmem 1377 (by decide +kernel) (by decide +kernel)
theorem yw_X12_look : YW yX12_look cX12_look 2 (some .int) 1 := ⟨tmem 1380 (by decide +kernel) (by decide +kernel), tmem 13 (by decide +kernel) (by decide +kernel), by decide, by decide, by decide +kernel⟩
theorem yv_X12_look : YV yX12_look := ⟨tmem 1379 (by decide +kernel) (by decide +kernel), smem 61 (by decide +kernel) (by decide +kernel)⟩
theorem ml_RX12_339 : Cond.methodLink RX12 339 yX12_isDigit ∈ gt := tmem 1386 (by decide +kernel) (by decide +kernel)
theorem yw_X12_isDigit : YW yX12_isDigit cX12_isDigit 1 (some .boolean) 1 := ⟨tmem 1388 (by decide +kernel) (by decide +kernel), tmem 13 (by decide +kernel) (by decide +kernel), by decide, by decide, by decide +kernel⟩
theorem ys_X12_isDigit : Cond.static yX12_isDigit ∈ gt := tmem 1387 (by decide +kernel) (by decide +kernel)
theorem k_M_0_82 : fk shM 0 82 = some (12, .inl 0) := rfl
theorem k_M_0_84 : fk shM 0 84 = some (12, .inl 0) := rfl
theorem fp_12_342 : FP RX12 342 12 84 (.int) := ⟨RX12, TX12, 86, tyX12, rfl, by decide, tmem 1041 (by decide +kernel) (by decide +kernel), inX12, tyX12_ok, nmX12, rfl, by decide +kernel⟩
theorem fp_12_332 : FP RX12 332 12 85 (.long) := ⟨RX12, TX12, 86, tyX12, rfl, by decide, tmem 1042 (by decide +kernel) (by decide +kernel), inX12, tyX12_ok, nmX12, rfl, by decide +kernel⟩
theorem k_M_0_85 : fk shM 0 85 = some (12, .inl 1) := rfl
theorem ml_RX12_329 : Cond.methodLink RX12 329 yX12_isLetter ∈ gt := tmem 1381 (by decide +kernel) (by decide +kernel)
theorem yw_X12_isLetter : YW yX12_isLetter cX12_isLetter 1 (some .boolean) 1 := ⟨tmem 1383 (by decide +kernel) (by decide +kernel), tmem 13 (by decide +kernel) (by decide +kernel), by decide, by decide, by decide +kernel⟩
theorem ys_X12_isLetter : Cond.static yX12_isLetter ∈ gt := tmem 1382 (by decide +kernel) (by decide +kernel)
theorem cst_RX12_335 : Jvm.Cond.constantLong RX12 335 (Int64.ofInt 32) ∈ gt := tmem 1384 (by decide +kernel) (by decide +kernel)
theorem cst_RX12_337 : Jvm.Cond.constantLong RX12 337 (Int64.ofInt 96) ∈ gt := tmem 1385 (by decide +kernel) (by decide +kernel)
theorem fp_12_320 : FP RX12 320 12 82 (.int) := ⟨RX12, TX12, 86, tyX12, rfl, by decide, tmem 1039 (by decide +kernel) (by decide +kernel), inX12, tyX12_ok, nmX12, rfl, by decide +kernel⟩
theorem fl_12_326 : FL RX12 326 12 81 := ⟨RX12, TX12, 86, rfl, by decide, tmem 1038 (by decide +kernel) (by decide +kernel), inX12⟩
theorem fp_12_326 : FP RX12 326 12 81 (.int) := ⟨RX12, TX12, 86, tyX12, rfl, by decide, tmem 1038 (by decide +kernel) (by decide +kernel), inX12, tyX12_ok, nmX12, rfl, by decide +kernel⟩
theorem k_M_0_81 : fk shM 0 81 = some (12, .inl 0) := rfl
theorem fl_12_345 : FL RX12 345 12 49 := ⟨RX12, TX12, 86, rfl, by decide, tmem 1006 (by decide +kernel) (by decide +kernel), inX12⟩
theorem k_M_0_49 : fk shM 0 49 = some (12, .inl 0) := rfl
theorem fp_12_345 : FP RX12 345 12 49 (.int) := ⟨RX12, TX12, 86, tyX12, rfl, by decide, tmem 1006 (by decide +kernel) (by decide +kernel), inX12, tyX12_ok, nmX12, rfl, by decide +kernel⟩
theorem fl_12_348 : FL RX12 348 12 50 := ⟨RX12, TX12, 86, rfl, by decide, tmem 1007 (by decide +kernel) (by decide +kernel), inX12⟩
theorem fp_12_348 : FP RX12 348 12 50 (.int) := ⟨RX12, TX12, 86, tyX12, rfl, by decide, tmem 1007 (by decide +kernel) (by decide +kernel), inX12, tyX12_ok, nmX12, rfl, by decide +kernel⟩
theorem k_M_0_50 : fk shM 0 50 = some (12, .inl 0) := rfl
theorem ml_RX12_351 : Cond.methodLink RX12 351 yX12_fail ∈ gt := tmem 1400 (by decide +kernel) (by decide +kernel)
theorem yw_X12_fail : YW yX12_fail cX12_fail 3 none 2 := ⟨tmem 1403 (by decide +kernel) (by decide +kernel), tmem 13 (by decide +kernel) (by decide +kernel), by decide, by decide, by decide +kernel⟩
theorem yv_X12_fail : YV yX12_fail := ⟨tmem 1402 (by decide +kernel) (by decide +kernel), smem 64 (by decide +kernel) (by decide +kernel)⟩
theorem ml_RX12_358 : Cond.methodLink RX12 358 yX12_next ∈ gt := tmem 1373 (by decide +kernel) (by decide +kernel)
theorem yw_X12_next : YW yX12_next cX12_next 2 none 0 := ⟨tmem 1376 (by decide +kernel) (by decide +kernel), tmem 13 (by decide +kernel) (by decide +kernel), by decide, by decide, by decide +kernel⟩
theorem yv_X12_next : YV yX12_next := ⟨tmem 1375 (by decide +kernel) (by decide +kernel), smem 60 (by decide +kernel) (by decide +kernel)⟩
theorem ml_RX12_355 : Cond.methodLink RX12 355 yX12_wrong ∈ gt := tmem 1412 (by decide +kernel) (by decide +kernel)
theorem yw_X12_wrong : YW yX12_wrong cX12_wrong 1 none 0 := ⟨tmem 1415 (by decide +kernel) (by decide +kernel), tmem 13 (by decide +kernel) (by decide +kernel), by decide, by decide, by decide +kernel⟩
theorem yv_X12_wrong : YV yX12_wrong := ⟨tmem 1414 (by decide +kernel) (by decide +kernel), smem 67 (by decide +kernel) (by decide +kernel)⟩
theorem ml_RX12_361 : Cond.methodLink RX12 361 yX12_spelled ∈ gt := tmem 1389 (by decide +kernel) (by decide +kernel)
theorem yw_X12_spelled : YW yX12_spelled cX12_spelled 8 (some .long) 6 := ⟨tmem 1391 (by decide +kernel) (by decide +kernel), tmem 13 (by decide +kernel) (by decide +kernel), by decide, by decide, by decide +kernel⟩
theorem ys_X12_spelled : Cond.static yX12_spelled ∈ gt := tmem 1390 (by decide +kernel) (by decide +kernel)
theorem ml_RX12_365 : Cond.methodLink RX12 365 yX12_isWord ∈ gt := tmem 1392 (by decide +kernel) (by decide +kernel)
theorem yw_X12_isWord : YW yX12_isWord cX12_isWord 3 (some .boolean) 1 := ⟨tmem 1395 (by decide +kernel) (by decide +kernel), tmem 13 (by decide +kernel) (by decide +kernel), by decide, by decide, by decide +kernel⟩
theorem yv_X12_isWord : YV yX12_isWord := ⟨tmem 1394 (by decide +kernel) (by decide +kernel), smem 62 (by decide +kernel) (by decide +kernel)⟩
theorem fl_12_369 : FL RX12 369 12 52 := ⟨RX12, TX12, 86, rfl, by decide, tmem 1009 (by decide +kernel) (by decide +kernel), inX12⟩
theorem fl_12_141 : FL RX12 141 12 59 := ⟨RX12, TX12, 86, rfl, by decide, tmem 1016 (by decide +kernel) (by decide +kernel), inX12⟩
theorem fl_12_144 : FL RX12 144 12 60 := ⟨RX12, TX12, 86, rfl, by decide, tmem 1017 (by decide +kernel) (by decide +kernel), inX12⟩
theorem fl_12_147 : FL RX12 147 12 61 := ⟨RX12, TX12, 86, rfl, by decide, tmem 1018 (by decide +kernel) (by decide +kernel), inX12⟩
theorem fl_12_150 : FL RX12 150 12 62 := ⟨RX12, TX12, 86, rfl, by decide, tmem 1019 (by decide +kernel) (by decide +kernel), inX12⟩
theorem fl_12_156 : FL RX12 156 12 64 := ⟨RX12, TX12, 86, rfl, by decide, tmem 1021 (by decide +kernel) (by decide +kernel), inX12⟩
theorem fl_12_153 : FL RX12 153 12 63 := ⟨RX12, TX12, 86, rfl, by decide, tmem 1020 (by decide +kernel) (by decide +kernel), inX12⟩
theorem ml_RX12_372 : Cond.methodLink RX12 372 yX12_wishOf ∈ gt := tmem 1404 (by decide +kernel) (by decide +kernel)
theorem yw_X12_wishOf : YW yX12_wishOf cX12_wishOf 1 (some .int) 0 := ⟨tmem 1407 (by decide +kernel) (by decide +kernel), tmem 13 (by decide +kernel) (by decide +kernel), by decide, by decide, by decide +kernel⟩
theorem yv_X12_wishOf : YV yX12_wishOf := ⟨tmem 1406 (by decide +kernel) (by decide +kernel), smem 65 (by decide +kernel) (by decide +kernel)⟩
theorem ml_RX12_375 : Cond.methodLink RX12 375 yX12_numberOf ∈ gt := tmem 1408 (by decide +kernel) (by decide +kernel)
theorem yw_X12_numberOf : YW yX12_numberOf cX12_numberOf 4 (some .int) 2 := ⟨tmem 1411 (by decide +kernel) (by decide +kernel), tmem 13 (by decide +kernel) (by decide +kernel), by decide, by decide, by decide +kernel⟩
theorem yv_X12_numberOf : YV yX12_numberOf := ⟨tmem 1410 (by decide +kernel) (by decide +kernel), smem 66 (by decide +kernel) (by decide +kernel)⟩
theorem k_M_0_59 : fk shM 0 59 = some (12, .inr 39) := rfl
theorem a_M_39 : shM[39]? = some (.inl (0, 9, .inl 0)) := rfl
theorem k_M_0_60 : fk shM 0 60 = some (12, .inr 40) := rfl
theorem a_M_40 : shM[40]? = some (.inl (0, 9, .inl 0)) := rfl
theorem k_M_0_61 : fk shM 0 61 = some (12, .inr 41) := rfl
theorem a_M_41 : shM[41]? = some (.inl (0, 9, .inl 0)) := rfl
theorem k_M_0_62 : fk shM 0 62 = some (12, .inr 42) := rfl
theorem a_M_42 : shM[42]? = some (.inl (0, 9, .inl 0)) := rfl
theorem k_M_0_52 : fk shM 0 52 = some (12, .inl 0) := rfl
theorem fp_12_369 : FP RX12 369 12 52 (.int) := ⟨RX12, TX12, 86, tyX12, rfl, by decide, tmem 1009 (by decide +kernel) (by decide +kernel), inX12, tyX12_ok, nmX12, rfl, by decide +kernel⟩
theorem k_M_0_63 : fk shM 0 63 = some (12, .inr 43) := rfl
theorem a_M_43 : shM[43]? = some (.inl (0, 9, .inl 0)) := rfl
theorem k_M_0_64 : fk shM 0 64 = some (12, .inr 44) := rfl
theorem a_M_44 : shM[44]? = some (.inl (2, 9, .inl 0)) := rfl
theorem fl_12_378 : FL RX12 378 12 45 := ⟨RX12, TX12, 86, rfl, by decide, tmem 1002 (by decide +kernel) (by decide +kernel), inX12⟩
theorem k_M_0_45 : fk shM 0 45 = some (12, .inl 0) := rfl
theorem fp_12_378 : FP RX12 378 12 45 (.int) := ⟨RX12, TX12, 86, tyX12, rfl, by decide, tmem 1002 (by decide +kernel) (by decide +kernel), inX12, tyX12_ok, nmX12, rfl, by decide +kernel⟩
theorem fl_12_387 : FL RX12 387 12 51 := ⟨RX12, TX12, 86, rfl, by decide, tmem 1008 (by decide +kernel) (by decide +kernel), inX12⟩
theorem fl_12_123 : FL RX12 123 12 53 := ⟨RX12, TX12, 86, rfl, by decide, tmem 1010 (by decide +kernel) (by decide +kernel), inX12⟩
theorem fl_12_126 : FL RX12 126 12 54 := ⟨RX12, TX12, 86, rfl, by decide, tmem 1011 (by decide +kernel) (by decide +kernel), inX12⟩
theorem fl_12_129 : FL RX12 129 12 55 := ⟨RX12, TX12, 86, rfl, by decide, tmem 1012 (by decide +kernel) (by decide +kernel), inX12⟩
theorem fl_12_132 : FL RX12 132 12 56 := ⟨RX12, TX12, 86, rfl, by decide, tmem 1013 (by decide +kernel) (by decide +kernel), inX12⟩
theorem fl_12_135 : FL RX12 135 12 57 := ⟨RX12, TX12, 86, rfl, by decide, tmem 1014 (by decide +kernel) (by decide +kernel), inX12⟩
theorem fl_12_138 : FL RX12 138 12 58 := ⟨RX12, TX12, 86, rfl, by decide, tmem 1015 (by decide +kernel) (by decide +kernel), inX12⟩
theorem k_M_0_51 : fk shM 0 51 = some (12, .inl 0) := rfl
theorem k_M_0_53 : fk shM 0 53 = some (12, .inr 33) := rfl
theorem a_M_33 : shM[33]? = some (.inl (0, 8, .inl 0)) := rfl
theorem k_M_0_54 : fk shM 0 54 = some (12, .inr 34) := rfl
theorem a_M_34 : shM[34]? = some (.inl (0, 8, .inl 0)) := rfl
theorem k_M_0_55 : fk shM 0 55 = some (12, .inr 35) := rfl
theorem a_M_35 : shM[35]? = some (.inl (0, 8, .inl 0)) := rfl
theorem k_M_0_56 : fk shM 0 56 = some (12, .inr 36) := rfl
theorem a_M_36 : shM[36]? = some (.inl (0, 8, .inl 0)) := rfl
theorem k_M_0_57 : fk shM 0 57 = some (12, .inr 37) := rfl
theorem a_M_37 : shM[37]? = some (.inl (0, 8, .inl 0)) := rfl
theorem k_M_0_58 : fk shM 0 58 = some (12, .inr 38) := rfl
theorem a_M_38 : shM[38]? = some (.inl (2, 8, .inl 0)) := rfl
theorem ml_RX12_384 : Cond.methodLink RX12 384 yX12_readPrize ∈ gt := tmem 1396 (by decide +kernel) (by decide +kernel)
theorem yw_X12_readPrize : YW yX12_readPrize cX12_readPrize 5 none 0 := ⟨tmem 1399 (by decide +kernel) (by decide +kernel), tmem 13 (by decide +kernel) (by decide +kernel), by decide, by decide, by decide +kernel⟩
theorem yv_X12_readPrize : YV yX12_readPrize := ⟨tmem 1398 (by decide +kernel) (by decide +kernel), smem 63 (by decide +kernel) (by decide +kernel)⟩
theorem fl_12_120 : FL RX12 120 12 48 := ⟨RX12, TX12, 86, rfl, by decide, tmem 1005 (by decide +kernel) (by decide +kernel), inX12⟩
theorem fp_12_120 : FP RX12 120 12 48 (.int) := ⟨RX12, TX12, 86, tyX12, rfl, by decide, tmem 1005 (by decide +kernel) (by decide +kernel), inX12, tyX12_ok, nmX12, rfl, by decide +kernel⟩
theorem k_M_0_48 : fk shM 0 48 = some (12, .inl 0) := rfl
theorem fp_12_387 : FP RX12 387 12 51 (.int) := ⟨RX12, TX12, 86, tyX12, rfl, by decide, tmem 1008 (by decide +kernel) (by decide +kernel), inX12, tyX12_ok, nmX12, rfl, by decide +kernel⟩
theorem fl_12_117 : FL RX12 117 12 47 := ⟨RX12, TX12, 86, rfl, by decide, tmem 1004 (by decide +kernel) (by decide +kernel), inX12⟩
theorem fp_12_117 : FP RX12 117 12 47 (.int) := ⟨RX12, TX12, 86, tyX12, rfl, by decide, tmem 1004 (by decide +kernel) (by decide +kernel), inX12, tyX12_ok, nmX12, rfl, by decide +kernel⟩
theorem k_M_0_47 : fk shM 0 47 = some (12, .inl 0) := rfl
theorem fp_12_314 : FP RX12 314 12 46 (.int) := ⟨RX12, TX12, 86, tyX12, rfl, by decide, tmem 1003 (by decide +kernel) (by decide +kernel), inX12, tyX12_ok, nmX12, rfl, by decide +kernel⟩
theorem ml_RX12_390 : Cond.methodLink RX12 390 yJ9_floorDiv_f86c9 ∈ gt := tmem 1431 (by decide +kernel) (by decide +kernel)
theorem yw_J9_floorDiv_f86c9 : YW yJ9_floorDiv_f86c9 cJ9_floorDiv_f86c9 6 (some .long) 2 := ⟨tmem 888 (by decide +kernel) (by decide +kernel), tmem 15 (by decide +kernel) (by decide +kernel), by decide, by decide, by decide +kernel⟩
theorem ys_J9_floorDiv_f86c9 : Cond.static yJ9_floorDiv_f86c9 ∈ gt := tmem 887 (by decide +kernel) (by decide +kernel)
theorem ml_RX12_393 : Cond.methodLink RX12 393 yJ9_floorMod_f86c9 ∈ gt := tmem 1432 (by decide +kernel) (by decide +kernel)
theorem yw_J9_floorMod_f86c9 : YW yJ9_floorMod_f86c9 cJ9_floorMod_f86c9 6 (some .long) 2 := ⟨tmem 1434 (by decide +kernel) (by decide +kernel), tmem 15 (by decide +kernel) (by decide +kernel), by decide, by decide, by decide +kernel⟩
theorem ys_J9_floorMod_f86c9 : Cond.static yJ9_floorMod_f86c9 ∈ gt := tmem 1433 (by decide +kernel) (by decide +kernel)
theorem fl_12_165 : FL RX12 165 12 67 := ⟨RX12, TX12, 86, rfl, by decide, tmem 1024 (by decide +kernel) (by decide +kernel), inX12⟩
theorem fl_12_168 : FL RX12 168 12 68 := ⟨RX12, TX12, 86, rfl, by decide, tmem 1025 (by decide +kernel) (by decide +kernel), inX12⟩
theorem k_M_0_67 : fk shM 0 67 = some (12, .inr 47) := rfl
theorem a_M_47 : shM[47]? = some (.inl (2, 24, .inl 0)) := rfl
theorem k_M_0_68 : fk shM 0 68 = some (12, .inr 48) := rfl
theorem a_M_48 : shM[48]? = some (.inl (2, 24, .inl 0)) := rfl
theorem fl_12_171 : FL RX12 171 12 69 := ⟨RX12, TX12, 86, rfl, by decide, tmem 1026 (by decide +kernel) (by decide +kernel), inX12⟩
theorem fl_12_159 : FL RX12 159 12 65 := ⟨RX12, TX12, 86, rfl, by decide, tmem 1022 (by decide +kernel) (by decide +kernel), inX12⟩
theorem fl_12_162 : FL RX12 162 12 66 := ⟨RX12, TX12, 86, rfl, by decide, tmem 1023 (by decide +kernel) (by decide +kernel), inX12⟩
theorem k_M_0_69 : fk shM 0 69 = some (12, .inr 49) := rfl
theorem a_M_49 : shM[49]? = some (.inl (2, 24, .inl 0)) := rfl
theorem k_M_0_65 : fk shM 0 65 = some (12, .inr 45) := rfl
theorem a_M_45 : shM[45]? = some (.inl (1, 24, .inl 1)) := rfl
theorem k_M_0_66 : fk shM 0 66 = some (12, .inr 46) := rfl
theorem a_M_46 : shM[46]? = some (.inl (1, 24, .inl 1)) := rfl
theorem ml_RX12_399 : Cond.methodLink RX12 399 yX12_isAbove ∈ gt := tmem 1428 (by decide +kernel) (by decide +kernel)
theorem yw_X12_isAbove : YW yX12_isAbove cX12_isAbove 21 (some .boolean) 4 := ⟨tmem 1430 (by decide +kernel) (by decide +kernel), tmem 13 (by decide +kernel) (by decide +kernel), by decide, by decide, by decide +kernel⟩
theorem ys_X12_isAbove : Cond.static yX12_isAbove ∈ gt := tmem 1429 (by decide +kernel) (by decide +kernel)
theorem ml_RX12_396 : Cond.methodLink RX12 396 yX12_wants ∈ gt := tmem 1424 (by decide +kernel) (by decide +kernel)
theorem yw_X12_wants : YW yX12_wants cX12_wants 3 (some .boolean) 2 := ⟨tmem 1427 (by decide +kernel) (by decide +kernel), tmem 13 (by decide +kernel) (by decide +kernel), by decide, by decide, by decide +kernel⟩
theorem yv_X12_wants : YV yX12_wants := ⟨tmem 1426 (by decide +kernel) (by decide +kernel), smem 68 (by decide +kernel) (by decide +kernel)⟩
theorem fl_12_403 : FL RX12 403 12 70 := ⟨RX12, TX12, 86, rfl, by decide, tmem 1027 (by decide +kernel) (by decide +kernel), inX12⟩
theorem fl_12_174 : FL RX12 174 12 72 := ⟨RX12, TX12, 86, rfl, by decide, tmem 1029 (by decide +kernel) (by decide +kernel), inX12⟩
theorem fl_12_177 : FL RX12 177 12 73 := ⟨RX12, TX12, 86, rfl, by decide, tmem 1030 (by decide +kernel) (by decide +kernel), inX12⟩
theorem fl_12_180 : FL RX12 180 12 74 := ⟨RX12, TX12, 86, rfl, by decide, tmem 1031 (by decide +kernel) (by decide +kernel), inX12⟩
theorem k_M_0_70 : fk shM 0 70 = some (12, .inl 0) := rfl
theorem k_M_0_72 : fk shM 0 72 = some (12, .inr 50) := rfl
theorem a_M_50 : shM[50]? = some (.inl (0, 4, .inl 0)) := rfl
theorem k_M_0_73 : fk shM 0 73 = some (12, .inr 51) := rfl
theorem a_M_51 : shM[51]? = some (.inl (0, 4, .inl 0)) := rfl
theorem k_M_0_74 : fk shM 0 74 = some (12, .inr 52) := rfl
theorem a_M_52 : shM[52]? = some (.inl (0, 4, .inl 0)) := rfl
theorem fp_12_403 : FP RX12 403 12 70 (.int) := ⟨RX12, TX12, 86, tyX12, rfl, by decide, tmem 1027 (by decide +kernel) (by decide +kernel), inX12, tyX12_ok, nmX12, rfl, by decide +kernel⟩
theorem fl_12_186 : FL RX12 186 12 76 := ⟨RX12, TX12, 86, rfl, by decide, tmem 1033 (by decide +kernel) (by decide +kernel), inX12⟩
theorem fl_12_189 : FL RX12 189 12 77 := ⟨RX12, TX12, 86, rfl, by decide, tmem 1034 (by decide +kernel) (by decide +kernel), inX12⟩
theorem fl_12_192 : FL RX12 192 12 78 := ⟨RX12, TX12, 86, rfl, by decide, tmem 1035 (by decide +kernel) (by decide +kernel), inX12⟩
theorem a_M_56 : shM[56]? = some (.inl (0, 4, .inl 0)) := rfl
theorem k_M_0_76 : fk shM 0 76 = some (12, .inr 54) := rfl
theorem a_M_54 : shM[54]? = some (.inl (0, 4, .inl 0)) := rfl
theorem k_M_0_77 : fk shM 0 77 = some (12, .inr 55) := rfl
theorem a_M_55 : shM[55]? = some (.inl (0, 4, .inl 0)) := rfl
theorem k_M_0_78 : fk shM 0 78 = some (12, .inr 56) := rfl
theorem fl_12_183 : FL RX12 183 12 75 := ⟨RX12, TX12, 86, rfl, by decide, tmem 1032 (by decide +kernel) (by decide +kernel), inX12⟩
theorem fl_12_406 : FL RX12 406 12 71 := ⟨RX12, TX12, 86, rfl, by decide, tmem 1028 (by decide +kernel) (by decide +kernel), inX12⟩
theorem k_M_0_71 : fk shM 0 71 = some (12, .inl 0) := rfl
theorem fp_12_406 : FP RX12 406 12 71 (.int) := ⟨RX12, TX12, 86, tyX12, rfl, by decide, tmem 1028 (by decide +kernel) (by decide +kernel), inX12, tyX12_ok, nmX12, rfl, by decide +kernel⟩
theorem ml_RX12_413 : Cond.methodLink RX12 413 yX12_canBear ∈ gt := tmem 1455 (by decide +kernel) (by decide +kernel)
theorem yw_X12_canBear : YW yX12_canBear cX12_canBear 3 (some .boolean) 2 := ⟨tmem 1458 (by decide +kernel) (by decide +kernel), tmem 13 (by decide +kernel) (by decide +kernel), by decide, by decide, by decide +kernel⟩
theorem yv_X12_canBear : YV yX12_canBear := ⟨tmem 1457 (by decide +kernel) (by decide +kernel), smem 71 (by decide +kernel) (by decide +kernel)⟩
theorem k_M_0_75 : fk shM 0 75 = some (12, .inr 53) := rfl
theorem a_M_53 : shM[53]? = some (.inl (0, 24, .inl 0)) := rfl
theorem ml_RX12_409 : Cond.methodLink RX12 409 yX12_puts ∈ gt := tmem 1451 (by decide +kernel) (by decide +kernel)
theorem yw_X12_puts : YW yX12_puts cX12_puts 4 none 3 := ⟨tmem 1454 (by decide +kernel) (by decide +kernel), tmem 13 (by decide +kernel) (by decide +kernel), by decide, by decide, by decide +kernel⟩
theorem yv_X12_puts : YV yX12_puts := ⟨tmem 1453 (by decide +kernel) (by decide +kernel), smem 70 (by decide +kernel) (by decide +kernel)⟩
theorem ml_RX12_416 : Cond.methodLink RX12 416 yX12_lays ∈ gt := tmem 1447 (by decide +kernel) (by decide +kernel)
theorem yw_X12_lays : YW yX12_lays cX12_lays 4 (some .int) 0 := ⟨tmem 1450 (by decide +kernel) (by decide +kernel), tmem 13 (by decide +kernel) (by decide +kernel), by decide, by decide, by decide +kernel⟩
theorem yv_X12_lays : YV yX12_lays := ⟨tmem 1449 (by decide +kernel) (by decide +kernel), smem 69 (by decide +kernel) (by decide +kernel)⟩
theorem ml_RX12_235 : Cond.methodLink RX12 235 yX12_turns ∈ gt := tmem 1279 (by decide +kernel) (by decide +kernel)
theorem yw_X12_turns : YW yX12_turns cX12_turns 5 none 1 := ⟨tmem 1282 (by decide +kernel) (by decide +kernel), tmem 13 (by decide +kernel) (by decide +kernel), by decide, by decide, by decide +kernel⟩
theorem yv_X12_turns : YV yX12_turns := ⟨tmem 1281 (by decide +kernel) (by decide +kernel), smem 51 (by decide +kernel) (by decide +kernel)⟩
theorem ml_RX12_381 : Cond.methodLink RX12 381 yX12_lay ∈ gt := tmem 1365 (by decide +kernel) (by decide +kernel)
theorem yw_X12_lay : YW yX12_lay cX12_lay 3 none 1 := ⟨tmem 1368 (by decide +kernel) (by decide +kernel), tmem 13 (by decide +kernel) (by decide +kernel), by decide, by decide, by decide +kernel⟩
theorem yv_X12_lay : YV yX12_lay := ⟨tmem 1367 (by decide +kernel) (by decide +kernel), smem 59 (by decide +kernel) (by decide +kernel)⟩
theorem ml_RX12_229 : Cond.methodLink RX12 229 yX12_grows ∈ gt := tmem 1271 (by decide +kernel) (by decide +kernel)
theorem yw_X12_grows : YW yX12_grows cX12_grows 7 (some .boolean) 1 := ⟨tmem 1274 (by decide +kernel) (by decide +kernel), tmem 13 (by decide +kernel) (by decide +kernel), by decide, by decide, by decide +kernel⟩
theorem yv_X12_grows : YV yX12_grows := ⟨tmem 1273 (by decide +kernel) (by decide +kernel), smem 49 (by decide +kernel) (by decide +kernel)⟩
theorem ml_RX12_239 : Cond.methodLink RX12 239 yX12_find ∈ gt := tmem 1264 (by decide +kernel) (by decide +kernel)
theorem yw_X12_find : YW yX12_find cX12_find 4 (some .int) 0 := ⟨tmem 1267 (by decide +kernel) (by decide +kernel), tmem 13 (by decide +kernel) (by decide +kernel), by decide, by decide, by decide +kernel⟩
theorem yv_X12_find : YV yX12_find := ⟨tmem 1266 (by decide +kernel) (by decide +kernel), smem 48 (by decide +kernel) (by decide +kernel)⟩
theorem fp_12_243 : FP RX12 243 12 15 (.boolean) := ⟨RX12, TX12, 86, tyX12, rfl, by decide, tmem 972 (by decide +kernel) (by decide +kernel), inX12, tyX12_ok, nmX12, rfl, by decide +kernel⟩
theorem fp_12_247 : FP RX12 247 12 16 (.int) := ⟨RX12, TX12, 86, tyX12, rfl, by decide, tmem 973 (by decide +kernel) (by decide +kernel), inX12, tyX12_ok, nmX12, rfl, by decide +kernel⟩
theorem fp_12_250 : FP RX12 250 12 17 (.int) := ⟨RX12, TX12, 86, tyX12, rfl, by decide, tmem 974 (by decide +kernel) (by decide +kernel), inX12, tyX12_ok, nmX12, rfl, by decide +kernel⟩
